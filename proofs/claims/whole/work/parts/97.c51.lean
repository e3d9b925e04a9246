/-! the class: feed (by program and by hand: wip/whole/gen/c51.py) -/
theorem byte_sh (x : Int32) (k : Int32) (hk : k = 24 ∨ k = 16 ∨ k = 8 ∨ k = 0) : (((x.toUInt32 >>> (k.toUInt32 &&& Int32.toUInt32 31)).toInt32).toInt8) = ((x >>> (k &&& 31)).toInt8) := by
  apply Int8.toBitVec_inj.mp
  apply BitVec.eq_of_getLsbD_eq
  intro i hi
  rcases hk with rfl | rfl | rfl | rfl
  · have e1 : ((24 : Int32).toUInt32 &&& Int32.toUInt32 31) = 24 := by decide
    have e2 : ((24 : Int32) &&& 31) = 24 := by decide
    rw [e1, e2]
    simp [Int32.toBitVec_shiftRight, BitVec.getLsbD_sshiftRight]
    done
  · have e1 : ((16 : Int32).toUInt32 &&& Int32.toUInt32 31) = 16 := by decide
    have e2 : ((16 : Int32) &&& 31) = 16 := by decide
    rw [e1, e2]
    simp [Int32.toBitVec_shiftRight, BitVec.getLsbD_sshiftRight]
    done
  · have e1 : ((8 : Int32).toUInt32 &&& Int32.toUInt32 31) = 8 := by decide
    have e2 : ((8 : Int32) &&& 31) = 8 := by decide
    rw [e1, e2]
    simp [Int32.toBitVec_shiftRight, BitVec.getLsbD_sshiftRight]
    done
  · have e1 : ((0 : Int32).toUInt32 &&& Int32.toUInt32 31) = 0 := by decide
    have e2 : ((0 : Int32) &&& 31) = 0 := by decide
    rw [e1, e2]
    simp
