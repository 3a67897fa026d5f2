/-! The class: an entry of a tape. -/
section CB
variable {d a m r lim cap : Nat} {G G' : bo_G} {Q : Option Value → bo_G → Prop} {us : List Nat} {lg : Nat → Int32} {E c i : Nat} {ke : Int32} {nn : Nat → Int32} {ts : List Int32}
theorem c_fromT0 {pl : Nat} (ha : a = 2 ∨ a = 7) (C : CR G a us lg E ke) (hW : WF lg E) (hm : G.length = 378 + 6 * m) (hr0 : G[r]? = some (cR lim cap ts)) (hra : 12 ≤ r ∧ r < 378) (hp : pl ≤ 40000) (k0 : rfs lg E 0 (tpN ts pl) < 0 → Q (some (.int (rfs lg E 0 (tpN ts pl)))) G) (k1 : rfs lg E 0 (tpN ts pl) = 0 → ∀ G' us' ke', CR G' a us' (lgN lg E 0 (tpN ts pl)) (E + 1) ke' → FD a us G us' G' → Q (some (.int (ansI lg E 0 (tpN ts pl)))) G') : Ex (d + 7) mX3_enterFrom (59, [(0, .ref a), (1, .ref r), (2, .int (nI pl)), (3, .int (tpN ts pl 0)), (4, .int (tpN ts pl 1)), (5, .int (tpN ts pl 2)), (6, .int (tpN ts pl 3)), (7, .int (tpN ts pl 4)), (8, .int (tpN ts pl 5))], [.int 0], G) Q := by
  have e4 : ∀ k, k < numc 0 → (n6 (tpN ts pl 0) 0 0 0 0 0) k = tpN ts pl k := fun k hk => by
    rw [show numc 0 = 1 by decide] at hk
    match k, hk with
    | 0, _ => rfl
    | k + 1, z => exact absurd z (by omega)
  have er := rfs_congr (lg := lg) (E := E) (c := 0) (by omega) e4
  have el := lgN_congr (lg := lg) (E := E) (c := 0) (by omega) e4
  have ea := ansI_congr (lg := lg) (E := E) (c := 0) (by omega) e4
  rw [← er, ← el, ← ea] at k1
  rw [← er] at k0
  exact Ex.tsw 120 rfl rfl (by decide) (c_from0 (m := m) ha C hW hm k0 k1)
theorem c_fromT1 {pl : Nat} (ha : a = 2 ∨ a = 7) (C : CR G a us lg E ke) (hW : WF lg E) (hm : G.length = 378 + 6 * m) (hr0 : G[r]? = some (cR lim cap ts)) (hra : 12 ≤ r ∧ r < 378) (hp : pl ≤ 40000) (k0 : rfs lg E 1 (tpN ts pl) < 0 → Q (some (.int (rfs lg E 1 (tpN ts pl)))) G) (k1 : rfs lg E 1 (tpN ts pl) = 0 → ∀ G' us' ke', CR G' a us' (lgN lg E 1 (tpN ts pl)) (E + 1) ke' → FD a us G us' G' → Q (some (.int (ansI lg E 1 (tpN ts pl)))) G') : Ex (d + 7) mX3_enterFrom (59, [(0, .ref a), (1, .ref r), (2, .int (nI pl)), (3, .int (tpN ts pl 0)), (4, .int (tpN ts pl 1)), (5, .int (tpN ts pl 2)), (6, .int (tpN ts pl 3)), (7, .int (tpN ts pl 4)), (8, .int (tpN ts pl 5))], [.int 1], G) Q := by
  have e4 : ∀ k, k < numc 1 → (n6 (tpN ts pl 0) (tpN ts pl 1) (tpN ts pl 2) (tpN ts pl 3) 0 0) k = tpN ts pl k := fun k hk => by
    rw [show numc 1 = 4 by decide] at hk
    match k, hk with
    | 0, _ => rfl
    | 1, _ => rfl
    | 2, _ => rfl
    | 3, _ => rfl
    | k + 4, z => exact absurd z (by omega)
  have er := rfs_congr (lg := lg) (E := E) (c := 1) (by omega) e4
  have el := lgN_congr (lg := lg) (E := E) (c := 1) (by omega) e4
  have ea := ansI_congr (lg := lg) (E := E) (c := 1) (by omega) e4
  rw [← er, ← el, ← ea] at k1
  rw [← er] at k0
  exact Ex.tsw 126 rfl rfl (by decide) (c_from1 (m := m) ha C hW hm k0 k1)
theorem c_fromT2 {pl : Nat} (ha : a = 2 ∨ a = 7) (C : CR G a us lg E ke) (hW : WF lg E) (hm : G.length = 378 + 6 * m) (hr0 : G[r]? = some (cR lim cap ts)) (hra : 12 ≤ r ∧ r < 378) (hp : pl ≤ 40000) (k0 : rfs lg E 2 (tpN ts pl) < 0 → Q (some (.int (rfs lg E 2 (tpN ts pl)))) G) (k1 : rfs lg E 2 (tpN ts pl) = 0 → ∀ G' us' ke', CR G' a us' (lgN lg E 2 (tpN ts pl)) (E + 1) ke' → FD a us G us' G' → Q (some (.int (ansI lg E 2 (tpN ts pl)))) G') : Ex (d + 7) mX3_enterFrom (59, [(0, .ref a), (1, .ref r), (2, .int (nI pl)), (3, .int (tpN ts pl 0)), (4, .int (tpN ts pl 1)), (5, .int (tpN ts pl 2)), (6, .int (tpN ts pl 3)), (7, .int (tpN ts pl 4)), (8, .int (tpN ts pl 5))], [.int 2], G) Q := by
  have e4 : ∀ k, k < numc 2 → (n6 (tpN ts pl 0) (tpN ts pl 1) (tpN ts pl 2) (tpN ts pl 3) (tpN ts pl 4) (tpN ts pl 5)) k = tpN ts pl k := fun k hk => by
    rw [show numc 2 = 6 by decide] at hk
    match k, hk with
    | 0, _ => rfl
    | 1, _ => rfl
    | 2, _ => rfl
    | 3, _ => rfl
    | 4, _ => rfl
    | 5, _ => rfl
    | k + 6, z => exact absurd z (by omega)
  have er := rfs_congr (lg := lg) (E := E) (c := 2) (by omega) e4
  have el := lgN_congr (lg := lg) (E := E) (c := 2) (by omega) e4
  have ea := ansI_congr (lg := lg) (E := E) (c := 2) (by omega) e4
  rw [← er, ← el, ← ea] at k1
  rw [← er] at k0
  exact Ex.tsw 138 rfl rfl (by decide) (c_from2 (m := m) ha C hW hm k0 k1)
theorem c_fromT3 {pl : Nat} (ha : a = 2 ∨ a = 7) (C : CR G a us lg E ke) (hW : WF lg E) (hm : G.length = 378 + 6 * m) (hr0 : G[r]? = some (cR lim cap ts)) (hra : 12 ≤ r ∧ r < 378) (hp : pl ≤ 40000) (k0 : rfs lg E 3 (tpN ts pl) < 0 → Q (some (.int (rfs lg E 3 (tpN ts pl)))) G) (k1 : rfs lg E 3 (tpN ts pl) = 0 → ∀ G' us' ke', CR G' a us' (lgN lg E 3 (tpN ts pl)) (E + 1) ke' → FD a us G us' G' → Q (some (.int (ansI lg E 3 (tpN ts pl)))) G') : Ex (d + 7) mX3_enterFrom (59, [(0, .ref a), (1, .ref r), (2, .int (nI pl)), (3, .int (tpN ts pl 0)), (4, .int (tpN ts pl 1)), (5, .int (tpN ts pl 2)), (6, .int (tpN ts pl 3)), (7, .int (tpN ts pl 4)), (8, .int (tpN ts pl 5))], [.int 3], G) Q := by
  have e4 : ∀ k, k < numc 3 → (n6 (tpN ts pl 0) (tpN ts pl 1) (tpN ts pl 2) (tpN ts pl 3) (tpN ts pl 4) 0) k = tpN ts pl k := fun k hk => by
    rw [show numc 3 = 5 by decide] at hk
    match k, hk with
    | 0, _ => rfl
    | 1, _ => rfl
    | 2, _ => rfl
    | 3, _ => rfl
    | 4, _ => rfl
    | k + 5, z => exact absurd z (by omega)
  have er := rfs_congr (lg := lg) (E := E) (c := 3) (by omega) e4
  have el := lgN_congr (lg := lg) (E := E) (c := 3) (by omega) e4
  have ea := ansI_congr (lg := lg) (E := E) (c := 3) (by omega) e4
  rw [← er, ← el, ← ea] at k1
  rw [← er] at k0
  exact Ex.tsw 154 rfl rfl (by decide) (c_from3 (m := m) ha C hW hm k0 k1)
theorem c_fromT4 {pl : Nat} (ha : a = 2 ∨ a = 7) (C : CR G a us lg E ke) (hW : WF lg E) (hm : G.length = 378 + 6 * m) (hr0 : G[r]? = some (cR lim cap ts)) (hra : 12 ≤ r ∧ r < 378) (hp : pl ≤ 40000) (k0 : rfs lg E 4 (tpN ts pl) < 0 → Q (some (.int (rfs lg E 4 (tpN ts pl)))) G) (k1 : rfs lg E 4 (tpN ts pl) = 0 → ∀ G' us' ke', CR G' a us' (lgN lg E 4 (tpN ts pl)) (E + 1) ke' → FD a us G us' G' → Q (some (.int (ansI lg E 4 (tpN ts pl)))) G') : Ex (d + 7) mX3_enterFrom (59, [(0, .ref a), (1, .ref r), (2, .int (nI pl)), (3, .int (tpN ts pl 0)), (4, .int (tpN ts pl 1)), (5, .int (tpN ts pl 2)), (6, .int (tpN ts pl 3)), (7, .int (tpN ts pl 4)), (8, .int (tpN ts pl 5))], [.int 4], G) Q := by
  have e4 : ∀ k, k < numc 4 → mNn (tpN ts pl 0) (tpN ts pl 1) (tpN ts pl 2) ts (pl + 4) k = tpN ts pl k := fun k hk => by
    have e15 : numc 4 = 15 := by decide
    unfold mNn
    by_cases a0 : k = 0
    · rw [if_pos a0, a0]
    · rw [if_neg a0]
      by_cases a1 : k = 1
      · rw [if_pos a1, a1]
      · rw [if_neg a1]
        by_cases a2 : k = 2
        · rw [if_pos a2, a2]
        · rw [if_neg a2, ← tp_at (by omega), show pl + 4 + (k - 3) = pl + 1 + k by omega]
  have er := rfs_congr (lg := lg) (E := E) (c := 4) (by omega) e4
  have el := lgN_congr (lg := lg) (E := E) (c := 4) (by omega) e4
  have ea := ansI_congr (lg := lg) (E := E) (c := 4) (by omega) e4
  rw [← er, ← el, ← ea] at k1
  rw [← er] at k0
  exact Ex.tsw 168 rfl rfl (by decide) (c_from4 (m := m) ha C hW hm hr0 hra k0 k1)
theorem c_fromT5 {pl : Nat} (ha : a = 2 ∨ a = 7) (C : CR G a us lg E ke) (hW : WF lg E) (hm : G.length = 378 + 6 * m) (hr0 : G[r]? = some (cR lim cap ts)) (hra : 12 ≤ r ∧ r < 378) (hp : pl ≤ 40000) (k0 : rfs lg E 5 (tpN ts pl) < 0 → Q (some (.int (rfs lg E 5 (tpN ts pl)))) G) (k1 : rfs lg E 5 (tpN ts pl) = 0 → ∀ G' us' ke', CR G' a us' (lgN lg E 5 (tpN ts pl)) (E + 1) ke' → FD a us G us' G' → Q (some (.int (ansI lg E 5 (tpN ts pl)))) G') : Ex (d + 7) mX3_enterFrom (59, [(0, .ref a), (1, .ref r), (2, .int (nI pl)), (3, .int (tpN ts pl 0)), (4, .int (tpN ts pl 1)), (5, .int (tpN ts pl 2)), (6, .int (tpN ts pl 3)), (7, .int (tpN ts pl 4)), (8, .int (tpN ts pl 5))], [.int 5], G) Q := by
  have e4 : ∀ k, k < numc 5 → (n6 (tpN ts pl 0) (tpN ts pl 1) (tpN ts pl 2) (tpN ts pl 3) (tpN ts pl 4) (tpN ts pl 5)) k = tpN ts pl k := fun k hk => by
    rw [show numc 5 = 6 by decide] at hk
    match k, hk with
    | 0, _ => rfl
    | 1, _ => rfl
    | 2, _ => rfl
    | 3, _ => rfl
    | 4, _ => rfl
    | 5, _ => rfl
    | k + 6, z => exact absurd z (by omega)
  have er := rfs_congr (lg := lg) (E := E) (c := 5) (by omega) e4
  have el := lgN_congr (lg := lg) (E := E) (c := 5) (by omega) e4
  have ea := ansI_congr (lg := lg) (E := E) (c := 5) (by omega) e4
  rw [← er, ← el, ← ea] at k1
  rw [← er] at k0
  exact Ex.tsw 182 rfl rfl (by decide) (c_from5 (m := m) ha C hW hm k0 k1)
theorem c_fromT6 {pl : Nat} (ha : a = 2 ∨ a = 7) (C : CR G a us lg E ke) (hW : WF lg E) (hm : G.length = 378 + 6 * m) (hr0 : G[r]? = some (cR lim cap ts)) (hra : 12 ≤ r ∧ r < 378) (hp : pl ≤ 40000) (k0 : rfs lg E 6 (tpN ts pl) < 0 → Q (some (.int (rfs lg E 6 (tpN ts pl)))) G) (k1 : rfs lg E 6 (tpN ts pl) = 0 → ∀ G' us' ke', CR G' a us' (lgN lg E 6 (tpN ts pl)) (E + 1) ke' → FD a us G us' G' → Q (some (.int (ansI lg E 6 (tpN ts pl)))) G') : Ex (d + 7) mX3_enterFrom (59, [(0, .ref a), (1, .ref r), (2, .int (nI pl)), (3, .int (tpN ts pl 0)), (4, .int (tpN ts pl 1)), (5, .int (tpN ts pl 2)), (6, .int (tpN ts pl 3)), (7, .int (tpN ts pl 4)), (8, .int (tpN ts pl 5))], [.int 6], G) Q := by
  have e4 : ∀ k, k < numc 6 → (n6 (tpN ts pl 0) (tpN ts pl 1) (tpN ts pl 2) (tpN ts pl 3) 0 0) k = tpN ts pl k := fun k hk => by
    rw [show numc 6 = 4 by decide] at hk
    match k, hk with
    | 0, _ => rfl
    | 1, _ => rfl
    | 2, _ => rfl
    | 3, _ => rfl
    | k + 4, z => exact absurd z (by omega)
  have er := rfs_congr (lg := lg) (E := E) (c := 6) (by omega) e4
  have el := lgN_congr (lg := lg) (E := E) (c := 6) (by omega) e4
  have ea := ansI_congr (lg := lg) (E := E) (c := 6) (by omega) e4
  rw [← er, ← el, ← ea] at k1
  rw [← er] at k0
  exact Ex.tsw 198 rfl rfl (by decide) (c_from6 (m := m) ha C hW hm k0 k1)
theorem c_fromT7 {pl : Nat} (ha : a = 2 ∨ a = 7) (C : CR G a us lg E ke) (hW : WF lg E) (hm : G.length = 378 + 6 * m) (hr0 : G[r]? = some (cR lim cap ts)) (hra : 12 ≤ r ∧ r < 378) (hp : pl ≤ 40000) (k0 : rfs lg E 7 (tpN ts pl) < 0 → Q (some (.int (rfs lg E 7 (tpN ts pl)))) G) (k1 : rfs lg E 7 (tpN ts pl) = 0 → ∀ G' us' ke', CR G' a us' (lgN lg E 7 (tpN ts pl)) (E + 1) ke' → FD a us G us' G' → Q (some (.int (ansI lg E 7 (tpN ts pl)))) G') : Ex (d + 7) mX3_enterFrom (59, [(0, .ref a), (1, .ref r), (2, .int (nI pl)), (3, .int (tpN ts pl 0)), (4, .int (tpN ts pl 1)), (5, .int (tpN ts pl 2)), (6, .int (tpN ts pl 3)), (7, .int (tpN ts pl 4)), (8, .int (tpN ts pl 5))], [.int 7], G) Q := by
  have e4 : ∀ k, k < numc 7 → (n6 (tpN ts pl 0) (tpN ts pl 1) (tpN ts pl 2) (tpN ts pl 3) 0 0) k = tpN ts pl k := fun k hk => by
    rw [show numc 7 = 4 by decide] at hk
    match k, hk with
    | 0, _ => rfl
    | 1, _ => rfl
    | 2, _ => rfl
    | 3, _ => rfl
    | k + 4, z => exact absurd z (by omega)
  have er := rfs_congr (lg := lg) (E := E) (c := 7) (by omega) e4
  have el := lgN_congr (lg := lg) (E := E) (c := 7) (by omega) e4
  have ea := ansI_congr (lg := lg) (E := E) (c := 7) (by omega) e4
  rw [← er, ← el, ← ea] at k1
  rw [← er] at k0
  exact Ex.tsw 210 rfl rfl (by decide) (c_from7 (m := m) ha C hW hm k0 k1)
theorem c_fromT8 {pl : Nat} (ha : a = 2 ∨ a = 7) (C : CR G a us lg E ke) (hW : WF lg E) (hm : G.length = 378 + 6 * m) (hr0 : G[r]? = some (cR lim cap ts)) (hra : 12 ≤ r ∧ r < 378) (hp : pl ≤ 40000) (k0 : rfs lg E 8 (tpN ts pl) < 0 → Q (some (.int (rfs lg E 8 (tpN ts pl)))) G) (k1 : rfs lg E 8 (tpN ts pl) = 0 → ∀ G' us' ke', CR G' a us' (lgN lg E 8 (tpN ts pl)) (E + 1) ke' → FD a us G us' G' → Q (some (.int (ansI lg E 8 (tpN ts pl)))) G') : Ex (d + 7) mX3_enterFrom (59, [(0, .ref a), (1, .ref r), (2, .int (nI pl)), (3, .int (tpN ts pl 0)), (4, .int (tpN ts pl 1)), (5, .int (tpN ts pl 2)), (6, .int (tpN ts pl 3)), (7, .int (tpN ts pl 4)), (8, .int (tpN ts pl 5))], [.int 8], G) Q := by
  have e4 : ∀ k, k < numc 8 → (n6 (tpN ts pl 0) (tpN ts pl 1) (tpN ts pl 2) (tpN ts pl 3) 0 0) k = tpN ts pl k := fun k hk => by
    rw [show numc 8 = 4 by decide] at hk
    match k, hk with
    | 0, _ => rfl
    | 1, _ => rfl
    | 2, _ => rfl
    | 3, _ => rfl
    | k + 4, z => exact absurd z (by omega)
  have er := rfs_congr (lg := lg) (E := E) (c := 8) (by omega) e4
  have el := lgN_congr (lg := lg) (E := E) (c := 8) (by omega) e4
  have ea := ansI_congr (lg := lg) (E := E) (c := 8) (by omega) e4
  rw [← er, ← el, ← ea] at k1
  rw [← er] at k0
  exact Ex.tsw 222 rfl rfl (by decide) (c_from8 (m := m) ha C hW hm k0 k1)
theorem c_fromT9 {pl : Nat} (ha : a = 2 ∨ a = 7) (C : CR G a us lg E ke) (hW : WF lg E) (hm : G.length = 378 + 6 * m) (hr0 : G[r]? = some (cR lim cap ts)) (hra : 12 ≤ r ∧ r < 378) (hp : pl ≤ 40000) (k0 : rfs lg E 9 (tpN ts pl) < 0 → Q (some (.int (rfs lg E 9 (tpN ts pl)))) G) (k1 : rfs lg E 9 (tpN ts pl) = 0 → ∀ G' us' ke', CR G' a us' (lgN lg E 9 (tpN ts pl)) (E + 1) ke' → FD a us G us' G' → Q (some (.int (ansI lg E 9 (tpN ts pl)))) G') : Ex (d + 7) mX3_enterFrom (59, [(0, .ref a), (1, .ref r), (2, .int (nI pl)), (3, .int (tpN ts pl 0)), (4, .int (tpN ts pl 1)), (5, .int (tpN ts pl 2)), (6, .int (tpN ts pl 3)), (7, .int (tpN ts pl 4)), (8, .int (tpN ts pl 5))], [.int 9], G) Q := by
  have e4 : ∀ k, k < numc 9 → (n6 (tpN ts pl 0) (tpN ts pl 1) (tpN ts pl 2) (tpN ts pl 3) 0 0) k = tpN ts pl k := fun k hk => by
    rw [show numc 9 = 4 by decide] at hk
    match k, hk with
    | 0, _ => rfl
    | 1, _ => rfl
    | 2, _ => rfl
    | 3, _ => rfl
    | k + 4, z => exact absurd z (by omega)
  have er := rfs_congr (lg := lg) (E := E) (c := 9) (by omega) e4
  have el := lgN_congr (lg := lg) (E := E) (c := 9) (by omega) e4
  have ea := ansI_congr (lg := lg) (E := E) (c := 9) (by omega) e4
  rw [← er, ← el, ← ea] at k1
  rw [← er] at k0
  exact Ex.tsw 234 rfl rfl (by decide) (c_from9 (m := m) ha C hW hm k0 k1)
theorem c_fromT10 {pl : Nat} (ha : a = 2 ∨ a = 7) (C : CR G a us lg E ke) (hW : WF lg E) (hm : G.length = 378 + 6 * m) (hr0 : G[r]? = some (cR lim cap ts)) (hra : 12 ≤ r ∧ r < 378) (hp : pl ≤ 40000) (k0 : rfs lg E 10 (tpN ts pl) < 0 → Q (some (.int (rfs lg E 10 (tpN ts pl)))) G) (k1 : rfs lg E 10 (tpN ts pl) = 0 → ∀ G' us' ke', CR G' a us' (lgN lg E 10 (tpN ts pl)) (E + 1) ke' → FD a us G us' G' → Q (some (.int (ansI lg E 10 (tpN ts pl)))) G') : Ex (d + 7) mX3_enterFrom (59, [(0, .ref a), (1, .ref r), (2, .int (nI pl)), (3, .int (tpN ts pl 0)), (4, .int (tpN ts pl 1)), (5, .int (tpN ts pl 2)), (6, .int (tpN ts pl 3)), (7, .int (tpN ts pl 4)), (8, .int (tpN ts pl 5))], [.int 10], G) Q := by
  have e4 : ∀ k, k < numc 10 → (n6 (tpN ts pl 0) (tpN ts pl 1) (tpN ts pl 2) (tpN ts pl 3) (tpN ts pl 4) 0) k = tpN ts pl k := fun k hk => by
    rw [show numc 10 = 5 by decide] at hk
    match k, hk with
    | 0, _ => rfl
    | 1, _ => rfl
    | 2, _ => rfl
    | 3, _ => rfl
    | 4, _ => rfl
    | k + 5, z => exact absurd z (by omega)
  have er := rfs_congr (lg := lg) (E := E) (c := 10) (by omega) e4
  have el := lgN_congr (lg := lg) (E := E) (c := 10) (by omega) e4
  have ea := ansI_congr (lg := lg) (E := E) (c := 10) (by omega) e4
  rw [← er, ← el, ← ea] at k1
  rw [← er] at k0
  exact Ex.tsw 246 rfl rfl (by decide) (c_from10 (m := m) ha C hW hm k0 k1)
theorem c_fromT11 {pl : Nat} (ha : a = 2 ∨ a = 7) (C : CR G a us lg E ke) (hW : WF lg E) (hm : G.length = 378 + 6 * m) (hr0 : G[r]? = some (cR lim cap ts)) (hra : 12 ≤ r ∧ r < 378) (hp : pl ≤ 40000) (k0 : rfs lg E 11 (tpN ts pl) < 0 → Q (some (.int (rfs lg E 11 (tpN ts pl)))) G) (k1 : rfs lg E 11 (tpN ts pl) = 0 → ∀ G' us' ke', CR G' a us' (lgN lg E 11 (tpN ts pl)) (E + 1) ke' → FD a us G us' G' → Q (some (.int (ansI lg E 11 (tpN ts pl)))) G') : Ex (d + 7) mX3_enterFrom (59, [(0, .ref a), (1, .ref r), (2, .int (nI pl)), (3, .int (tpN ts pl 0)), (4, .int (tpN ts pl 1)), (5, .int (tpN ts pl 2)), (6, .int (tpN ts pl 3)), (7, .int (tpN ts pl 4)), (8, .int (tpN ts pl 5))], [.int 11], G) Q := by
  have e4 : ∀ k, k < numc 11 → (n6 (tpN ts pl 0) (tpN ts pl 1) (tpN ts pl 2) 0 0 0) k = tpN ts pl k := fun k hk => by
    rw [show numc 11 = 3 by decide] at hk
    match k, hk with
    | 0, _ => rfl
    | 1, _ => rfl
    | 2, _ => rfl
    | k + 3, z => exact absurd z (by omega)
  have er := rfs_congr (lg := lg) (E := E) (c := 11) (by omega) e4
  have el := lgN_congr (lg := lg) (E := E) (c := 11) (by omega) e4
  have ea := ansI_congr (lg := lg) (E := E) (c := 11) (by omega) e4
  rw [← er, ← el, ← ea] at k1
  rw [← er] at k0
  exact Ex.tsw 260 rfl rfl (by decide) (c_from11 (m := m) ha C hW hm k0 k1)
theorem c_enterFrom {pl : Nat} (ha : a = 2 ∨ a = 7) (C : CR G a us lg E ke) (hW : WF lg E) (hm : G.length = 378 + 6 * m) (hr0 : G[r]? = some (cR lim cap ts)) (hra : 12 ≤ r ∧ r < 378) (hp : pl ≤ 40000) (hc : c < 12) (hcc : tpC ts pl = nI c) (k0 : rfs lg E c (tpN ts pl) < 0 → Q (some (.int (rfs lg E c (tpN ts pl)))) G) (k1 : rfs lg E c (tpN ts pl) = 0 → ∀ G' us' ke', CR G' a us' (lgN lg E c (tpN ts pl)) (E + 1) ke' → FD a us G us' G' → Q (some (.int (ansI lg E c (tpN ts pl)))) G') : Cx (d + 7) mX3_enterFrom [.ref a, .ref r, .int (nI pl)] G Q := by
  have h0 := C.1.1
  have A : ∀ j, j ≤ 5 → bo_at ts (nI pl + nI (1 + j)) = tpN ts pl j := fun j hj => by rw [nI_add, ← tp_at (by omega), show pl + (1 + j) = pl + 1 + j by omega]
  have A0 : bo_at ts (nI pl + 1) = tpN ts pl 0 := A 0 (by omega)
  have A1 : bo_at ts (nI pl + 2) = tpN ts pl 1 := A 1 (by omega)
  have A2 : bo_at ts (nI pl + 3) = tpN ts pl 2 := A 2 (by omega)
  have A3 : bo_at ts (nI pl + 4) = tpN ts pl 3 := A 3 (by omega)
  have A4 : bo_at ts (nI pl + 5) = tpN ts pl 4 := A 4 (by omega)
  have A5 : bo_at ts (nI pl + 6) = tpN ts pl 5 := A 5 (by omega)
  have fin : Ex (d + 7) mX3_enterFrom (59, [(0, .ref a), (1, .ref r), (2, .int (nI pl)), (3, .int (tpN ts pl 0)), (4, .int (tpN ts pl 1)), (5, .int (tpN ts pl 2)), (6, .int (tpN ts pl 3)), (7, .int (tpN ts pl 4)), (8, .int (tpN ts pl 5))], [.int (nI c)], G) Q := by
    match c, hc with
    | 0, _ => exact c_fromT0 (m := m) ha C hW hm hr0 hra hp k0 k1
    | 1, _ => exact c_fromT1 (m := m) ha C hW hm hr0 hra hp k0 k1
    | 2, _ => exact c_fromT2 (m := m) ha C hW hm hr0 hra hp k0 k1
    | 3, _ => exact c_fromT3 (m := m) ha C hW hm hr0 hra hp k0 k1
    | 4, _ => exact c_fromT4 (m := m) ha C hW hm hr0 hra hp k0 k1
    | 5, _ => exact c_fromT5 (m := m) ha C hW hm hr0 hra hp k0 k1
    | 6, _ => exact c_fromT6 (m := m) ha C hW hm hr0 hra hp k0 k1
    | 7, _ => exact c_fromT7 (m := m) ha C hW hm hr0 hra hp k0 k1
    | 8, _ => exact c_fromT8 (m := m) ha C hW hm hr0 hra hp k0 k1
    | 9, _ => exact c_fromT9 (m := m) ha C hW hm hr0 hra hp k0 k1
    | 10, _ => exact c_fromT10 (m := m) ha C hW hm hr0 hra hp k0 k1
    | 11, _ => exact c_fromT11 (m := m) ha C hW hm hr0 hra hp k0 k1
    | c + 12, z => exact absurd z (by omega)
  generalize tpN ts pl 0 = x0 at A0 fin
  generalize tpN ts pl 1 = x1 at A1 fin
  generalize tpN ts pl 2 = x2 at A2 fin
  generalize tpN ts pl 3 = x3 at A3 fin
  generalize tpN ts pl 4 = x4 at A4 fin
  generalize tpN ts pl 5 = x5 at A5 fin
  clear k0 k1 A
  refine Cx.body rfl rfl ?_
  (repeat (first | refine Ex.go rfl rfl ?_ | refine Ex.gf rfl rfl (by assumption) (by rfl) (by first | rfl | assumption) ?_))
  refine Ex.cv1 rfl rfl rfl hr0 (by rfl) (by decide) rfl ?_
  refine Cx.ratE hr0 A0 ?_
  refine Ex.go rfl rfl ?_
  show Ex (d + 7) mX3_enterFrom (8, [(0, .ref a), (1, .ref r), (2, .int (nI pl)), (3, .int x0)], [], G) Q
  (repeat (first | refine Ex.go rfl rfl ?_ | refine Ex.gf rfl rfl (by assumption) (by rfl) (by first | rfl | assumption) ?_))
  refine Ex.cv1 rfl rfl rfl hr0 (by rfl) (by decide) rfl ?_
  refine Cx.ratE hr0 A1 ?_
  refine Ex.go rfl rfl ?_
  show Ex (d + 7) mX3_enterFrom (17, [(0, .ref a), (1, .ref r), (2, .int (nI pl)), (3, .int x0), (4, .int x1)], [], G) Q
  (repeat (first | refine Ex.go rfl rfl ?_ | refine Ex.gf rfl rfl (by assumption) (by rfl) (by first | rfl | assumption) ?_))
  refine Ex.cv1 rfl rfl rfl hr0 (by rfl) (by decide) rfl ?_
  refine Cx.ratE hr0 A2 ?_
  refine Ex.go rfl rfl ?_
  show Ex (d + 7) mX3_enterFrom (26, [(0, .ref a), (1, .ref r), (2, .int (nI pl)), (3, .int x0), (4, .int x1), (5, .int x2)], [], G) Q
  (repeat (first | refine Ex.go rfl rfl ?_ | refine Ex.gf rfl rfl (by assumption) (by rfl) (by first | rfl | assumption) ?_))
  refine Ex.cv1 rfl rfl rfl hr0 (by rfl) (by decide) rfl ?_
  refine Cx.ratE hr0 A3 ?_
  refine Ex.go rfl rfl ?_
  show Ex (d + 7) mX3_enterFrom (35, [(0, .ref a), (1, .ref r), (2, .int (nI pl)), (3, .int x0), (4, .int x1), (5, .int x2), (6, .int x3)], [], G) Q
  (repeat (first | refine Ex.go rfl rfl ?_ | refine Ex.gf rfl rfl (by assumption) (by rfl) (by first | rfl | assumption) ?_))
  refine Ex.cv1 rfl rfl rfl hr0 (by rfl) (by decide) rfl ?_
  refine Cx.ratE hr0 A4 ?_
  refine Ex.go rfl rfl ?_
  show Ex (d + 7) mX3_enterFrom (44, [(0, .ref a), (1, .ref r), (2, .int (nI pl)), (3, .int x0), (4, .int x1), (5, .int x2), (6, .int x3), (7, .int x4)], [], G) Q
  (repeat (first | refine Ex.go rfl rfl ?_ | refine Ex.gf rfl rfl (by assumption) (by rfl) (by first | rfl | assumption) ?_))
  refine Ex.cv1 rfl rfl rfl hr0 (by rfl) (by decide) rfl ?_
  refine Cx.ratE hr0 A5 ?_
  refine Ex.go rfl rfl ?_
  show Ex (d + 7) mX3_enterFrom (54, [(0, .ref a), (1, .ref r), (2, .int (nI pl)), (3, .int x0), (4, .int x1), (5, .int x2), (6, .int x3), (7, .int x4), (8, .int x5)], [], G) Q
  (repeat (first | refine Ex.go rfl rfl ?_ | refine Ex.gf rfl rfl (by assumption) (by rfl) (by first | rfl | assumption) ?_))
  refine Ex.cv1 rfl rfl rfl hr0 (by rfl) (by decide) rfl ?_
  refine Cx.ratE hr0 ((tp_c (by omega)).trans hcc) ?_
  exact fin
end CB
