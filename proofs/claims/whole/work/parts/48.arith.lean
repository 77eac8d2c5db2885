/-! PART 48: division, least and most, of small numbers. -/
theorem idv_pos {a b : Int} (h1 : 0 ≤ a) (h2 : a < 2147483648) (h3 : 0 < b) (h4 : b < 2147483648) : idv a b = a / b := by
  have e1 : (Int32.ofInt a).toInt = a := wr_id (by omega) h2
  have e2 : (Int32.ofInt b).toInt = b := wr_id (by omega) h4
  have h5 : a / b ≤ a := Int.ediv_le_self b h1
  have h6 : 0 ≤ a / b := Int.ediv_nonneg h1 (by omega)
  unfold idv
  rw [Int32.toInt_div, e1, e2, Int.tdiv_eq_ediv_of_nonneg h1]
  exact Int.bmod_eq_of_le (by omega) (by omega)
theorem irm_pos {a b : Int} (h1 : 0 ≤ a) (h2 : a < 2147483648) (h3 : 0 < b) (h4 : b < 2147483648) : irm a b = a % b := by
  have e1 : (Int32.ofInt a).toInt = a := wr_id (by omega) h2
  have e2 : (Int32.ofInt b).toInt = b := wr_id (by omega) h4
  have h5 : a / b ≤ a := Int.ediv_le_self b h1
  have h6 : 0 ≤ a / b := Int.ediv_nonneg h1 (by omega)
  have h7 : a % b < b := Int.emod_lt_of_pos a h3
  have h8 : 0 ≤ a % b := Int.emod_nonneg a (by omega)
  have h9 : a - a / b * b = a % b := by have := Int.mul_ediv_add_emod a b; rw [Int.mul_comm] at this; omega
  have hd : (Int32.ofInt a / Int32.ofInt b).toInt = a / b := idv_pos h1 h2 h3 h4
  unfold irm
  rw [Int32.toInt_sub, Int32.toInt_mul, hd, e1, e2, Int.sub_bmod_bmod, h9]
  exact Int.bmod_eq_of_le (by omega) (by omega)
