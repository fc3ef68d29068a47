/-! the made memory: its references -/
def Mk : Mem := (eConstr M0d).get constr_some
theorem Mk_eq : eConstr M0d = some Mk := (Option.some_get constr_some).symm
def hrT (h j k : Nat) : Nat :=
  if j = 0 then ([5, h + 1, h + 2, h + 3, h + 4, h + 9, h + 14, h + 15, h + 16] : List Nat).getD k 0
  else if j = 4 then ([h + 5, h + 6, h + 7, h + 8] : List Nat).getD k 0
  else if j = 9 then ([h + 10, h + 11, h + 12, h + 13] : List Nat).getD k 0
  else if j = 16 then ([h + 17] : List Nat).getD k 0 else 0
def srT (h j k : Nat) : Nat := if j = 0 then ([h + 1, h + 2, h + 3] : List Nat).getD k 0 else 0
def loR (a k : Nat) : Nat := match a with
  | 1 => ([2, 4, 5, 8, 11, 0, 28, 32, 50, 772, 0, 790, 791, 981, 999] : List Nat).getD k 0
  | 2 => ([3] : List Nat).getD k 0
  | 4 => ([2] : List Nat).getD k 0
  | 5 => ([6, 7] : List Nat).getD k 0
  | 8 => ([9, 10] : List Nat).getD k 0
  | 11 => ([12, 16, 20, 24] : List Nat).getD k 0
  | _ => 0
def moR : List Nat := [0, 1004, 0, 0, 0, 1005, 1006, 0, 1007, 1008, 0, 1009, 1010, 0, 0, 1011, 1012, 0, 1013, 1014, 1015, 1016, 1017, 0, 1018, 0, 0, 1019, 0, 0, 0, 0, 1020, 0]
def rfT (a k : Nat) : Nat :=
  if a < 12 then loR a k else if a < 32 then srT (a - (a - 12) % 4) ((a - 12) % 4) k else if a < 50 then hrT 32 (a - 32) k else if a = 50 then (if k = 0 then 51 else 0) else if a = 51 then (if k < 40 then 52 + 18 * k else 0)
  else if a < 772 then hrT (a - (a - 52) % 18) ((a - 52) % 18) k else if a < 790 then hrT 772 (a - 772) k else if a = 791 then ([792, 793, 794, 977, 977] : List Nat).getD k 0 else if a = 792 then (if k < 7 then 795 + 26 * k else 0) else if a = 793 then (if k < 7 then 813 + 26 * k else 0) else if a = 794 then (if k < 7 then 817 + 26 * k else 0)
  else if a < 795 then 0 else if a < 977 then (if (a - 795) % 26 < 18 then hrT (a - (a - 795) % 26) ((a - 795) % 26) k else srT (a - ((a - 795) % 26 - 18) % 4) (((a - 795) % 26 - 18) % 4) k)
  else if a < 981 then srT 977 (a - 977) k else if a < 999 then hrT 981 (a - 981) k else if a < 1003 then srT 999 (a - 999) k else if a = 1003 then moR.getD k 0 else 0
def rkT (a : Nat) : Nat := if (tgT 5 a).1 == 100 || (tgT 5 a).1 == 101 || (tgT 5 a).1 == 102 then 0 else (tgT 5 a).2
def rfB (M : Mem) (lo n : Nat) : Bool := (List.range n).all (fun i => (List.range (rkT (lo + i))).all (fun k => grM M (lo + i) k == rfT (lo + i) k))
set_option maxRecDepth 1000000 in
theorem rf_0 : rfB Mk 0 32 = true := by decide +kernel
set_option maxRecDepth 1000000 in
theorem rf_1 : rfB Mk 32 128 = true := by decide +kernel
set_option maxRecDepth 1000000 in
theorem rf_2 : rfB Mk 160 128 = true := by decide +kernel
set_option maxRecDepth 1000000 in
theorem rf_3 : rfB Mk 288 128 = true := by decide +kernel
set_option maxRecDepth 1000000 in
theorem rf_4 : rfB Mk 416 128 = true := by decide +kernel
set_option maxRecDepth 1000000 in
theorem rf_5 : rfB Mk 544 128 = true := by decide +kernel
set_option maxRecDepth 1000000 in
theorem rf_6 : rfB Mk 672 128 = true := by decide +kernel
set_option maxRecDepth 1000000 in
theorem rf_7 : rfB Mk 800 128 = true := by decide +kernel
set_option maxRecDepth 1000000 in
theorem rf_8 : rfB Mk 928 94 = true := by decide +kernel
theorem rf_use {M : Mem} {lo n a k : Nat} (h : rfB M lo n = true) (h1 : lo ≤ a) (h2 : a < lo + n) (hk : k < rkT a) : grM M a k = rfT a k := by
  unfold rfB at h
  have h3 := List.all_eq_true.mp h (a - lo) (List.mem_range.mpr (by omega))
  have e : lo + (a - lo) = a := by omega
  rw [e] at h3
  exact eq_of_beq (List.all_eq_true.mp h3 k (List.mem_range.mpr hk))
theorem mk_rf {a k : Nat} (h : a ≤ 1021) (hk : k < rkT a) : grM Mk a k = rfT a k := by
  by_cases h0 : a < 32
  · exact rf_use rf_0 (by omega) (by omega) hk
  by_cases h1 : a < 160
  · exact rf_use rf_1 (by omega) (by omega) hk
  by_cases h2 : a < 288
  · exact rf_use rf_2 (by omega) (by omega) hk
  by_cases h3 : a < 416
  · exact rf_use rf_3 (by omega) (by omega) hk
  by_cases h4 : a < 544
  · exact rf_use rf_4 (by omega) (by omega) hk
  by_cases h5 : a < 672
  · exact rf_use rf_5 (by omega) (by omega) hk
  by_cases h6 : a < 800
  · exact rf_use rf_6 (by omega) (by omega) hk
  by_cases h7 : a < 928
  · exact rf_use rf_7 (by omega) (by omega) hk
  exact rf_use rf_8 (by omega) (by omega) hk
def tgB (M : Mem) : Bool := (List.range 1022).all (fun a => tgM M a == tgT 5 a) && [5001, 5002, 5003, 5004, 5005].all (fun a => tgM M a == tgT 5 a && (List.range (tgT 5 a).2).all (fun j => giM M a j == (oaM a).getD j 0))
def inB (M : Mem) : Bool := ([(5, 2), (6, 0), (6, 1), (2, 1), (1, 5), (1, 10), (790, 0), (790, 1), (790, 2), (790, 3), (50, 1), (50, 2), (48, 1), (1003, 0), (1003, 2), (1003, 10), (1003, 13), (1003, 25), (1003, 33), (1012, 0), (1012, 1), (1012, 2), (1012, 3), (1011, 3712)] : List (Nat × Nat)).all (fun q => giM M q.1 q.2 == 0)
set_option maxRecDepth 1000000 in
theorem mk_cn : cnM Mk = 1021 := by decide +kernel
set_option maxRecDepth 1000000 in
theorem mk_tgB : tgB Mk = true := by decide +kernel
set_option maxRecDepth 1000000 in
theorem mk_inB : inB Mk = true := by decide +kernel
theorem mk_ex : ∃ M : Mem, eConstr M0d = some M ∧ cnM M = 1021 ∧ tgB M = true ∧ inB M = true ∧ ∀ a k : Nat, a ≤ 1021 → k < rkT a → grM M a k = rfT a k := ⟨Mk, Mk_eq, mk_cn, mk_tgB, mk_inB, fun _ _ h hk => mk_rf h hk⟩
/-- the memory as it was made -/
noncomputable def Mc : Mem := Classical.choose mk_ex
theorem Mc_eq : eConstr M0d = some Mc := (Classical.choose_spec mk_ex).1
theorem mc_cn : cnM Mc = 1021 := (Classical.choose_spec mk_ex).2.1
theorem mc_tgB : tgB Mc = true := (Classical.choose_spec mk_ex).2.2.1
theorem mc_inB : inB Mc = true := (Classical.choose_spec mk_ex).2.2.2.1
theorem mc_rf {a k : Nat} (h : a ≤ 1021) (hk : k < rkT a) : grM Mc a k = rfT a k := (Classical.choose_spec mk_ex).2.2.2.2 a k h hk
set_option maxRecDepth 1000000 in
theorem mc_mo : (((alF M0d 10 15).bind fun q1 => (eA_init (cnM q1) q1).bind fun q2 => alF q2 11 34).map cnM) = some 1003 := by decide +kernel
def rtB (lo n : Nat) : Bool := (List.range n).all (fun i => (List.range (rkT (lo + i))).all (fun k => decide (rfT (lo + i) k ≤ 5000)))
theorem rt_ok : rtB 0 1022 = true := by decide +kernel
theorem rt_le {a k : Nat} (h : a ≤ 1021) (hk : k < rkT a) : rfT a k ≤ 5000 := by
  have h1 := rt_ok
  unfold rtB at h1
  have h3 := List.all_eq_true.mp h1 a (List.mem_range.mpr (by omega))
  rw [Nat.zero_add] at h3
  exact of_decide_eq_true (List.all_eq_true.mp h3 k (List.mem_range.mpr hk))
