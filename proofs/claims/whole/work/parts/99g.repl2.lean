-- ==== replay: changesThere in the reference
theorem rpRm_cons (p : Int) (r : List Int) (fs : List gF) : rpRm (p :: r) fs = rpRm r (fs.filter (fun f => decide (f.1 ≠ p))) := rfl
theorem rpPt_cons (f : gF) (r fs : List gF) : rpPt (f :: r) fs = rpPt r (tPut f.1 f.2 fs) := rfl
theorem s_cT9 {M : gM} {on : Int} {o : List gF} {L : List (Int × Int × Int)} (hL : uCh M L) (hl : L.length ≤ 32) (hT : uT M on o) : F_changesThere_9 M on 0 = if L.all (gf o) = true then F_changesThere_59 M on 0 else some (0, M) := by
  have lp : ∀ (suf pre : List (Int × Int × Int)), L = pre ++ suf → F_changesThere_9 M on (pre.length : Int) = if suf.all (gf o) = true then F_changesThere_59 M on 0 else some (0, M) := by
    intro suf
    induction suf with
    | nil =>
      intro pre e
      rw [List.append_nil] at e
      rw [eq_changesThere_9, hL.1, e, if_neg (by omega), List.all_nil, if_pos rfl]
    | cons x r ih =>
      intro pre e
      have hln := len_mid e
      have hx := uCh_at hL (at_mid e)
      have ih' := ih (pre ++ [x]) (app_mid e)
      rw [List.length_append, List.length_singleton] at ih'
      rw [eq_changesThere_9, hL.1, if_pos (by omega), if_pos (by omega), hx.1, gI_bb (s_contentBy hT), hx.2.1, hx.2.2, gw32_id (by omega) (by omega), List.all_cons]
      have nx : ((pre.length : Int) + 1) = ((pre.length + 1 : Nat) : Int) := by omega
      by_cases c1 : tCont x.1 o = x.2.1
      · rw [if_pos c1, nx, ih', show gf o x = true from decide_eq_true (Or.inl c1), Bool.true_and]
      · rw [if_neg c1]
        by_cases c2 : tCont x.1 o = x.2.2
        · rw [if_pos c2, nx, ih', show gf o x = true from decide_eq_true (Or.inr c2), Bool.true_and]
        · rw [if_neg c2, show gf o x = false from decide_eq_false (fun w => w.elim c1 c2), Bool.false_and, if_neg (by decide)]
  exact lp L [] rfl
theorem s_cT59 {M : gM} {on : Int} {L : List (Int × Int × Int)} (hL : uCh M L) (hl : L.length ≤ 32) (hP : ∀ x ∈ L, pW x.1) {o : List gF} (hT : uT M 122 o) (hG : tGd o) : ∃ M1, F_changesThere_59 M on 0 = F_changesThere_112 M1 on 0 ∧ uCh M1 L ∧ uT M1 122 (rpRm ((L.filter g0).map (fun x => x.1)) o) ∧ ∀ (v : Int) (hs : List gF), v ≠ 122 → uT M v hs → uT M1 v hs := by
  have lp : ∀ (suf pre : List (Int × Int × Int)) (cur : List gF) (M2 : gM), L = pre ++ suf → uCh M2 L → uT M2 122 cur → tGd cur → (∀ (v : Int) (hs : List gF), v ≠ 122 → uT M v hs → uT M2 v hs) → ∃ M1, F_changesThere_59 M2 on (pre.length : Int) = F_changesThere_112 M1 on 0 ∧ uCh M1 L ∧ uT M1 122 (rpRm ((suf.filter g0).map (fun x => x.1)) cur) ∧ ∀ (v : Int) (hs : List gF), v ≠ 122 → uT M v hs → uT M1 v hs := by
    intro suf
    induction suf with
    | nil =>
      intro pre cur M2 e hL2 hT2 hG2 hk
      rw [List.append_nil] at e
      rw [eq_changesThere_59, hL2.1, e, if_neg (by omega)]
      exact ⟨M2, rfl, e ▸ hL2, hT2, hk⟩
    | cons x r ih =>
      intro pre cur M2 e hL2 hT2 hG2 hk
      have hln := len_mid e
      have hx := uCh_at hL2 (at_mid e)
      have ih' := ih (pre ++ [x])
      rw [List.length_append, List.length_singleton] at ih'
      have nx : ((pre.length : Int) + 1) = ((pre.length + 1 : Nat) : Int) := by omega
      have hpx := hP x (by rw [e]; simp)
      rw [eq_changesThere_59, hL2.1, if_pos (by omega), if_pos (by omega), hx.2.1, hx.1, gw32_id (by omega) (by omega), nx]
      by_cases c : x.2.1 = 0
      · rw [if_pos c, gI_bb (s_fileAt hT2), List.filter_cons_of_pos (show g0 x = true from decide_eq_true c), List.map_cons, rpRm_cons]
        by_cases c1 : tFind x.1 cur 0 = -1
        · rw [if_pos c1]
          have same : cur.filter (fun f => decide (f.1 ≠ x.1)) = cur := List.filter_eq_self.mpr (fun f hf => decide_eq_true (tFind_no.mp c1 f hf))
          rw [same]
          exact ih' cur M2 (app_mid e) hL2 hT2 hG2 hk
        · rw [if_neg c1]
          obtain ⟨M3, e3, p3⟩ := s_takes hT2 hG2.2.2 hpx
          have f3 : gFr [718, 719, 720] [] M2 M3 := fr_takes e3
          rw [gI_bb e3]
          have hm : ∃ f ∈ cur, f.1 = x.1 := by
            refine Classical.byContradiction (fun w => c1 (tFind_no.mpr (fun f hf h => w ⟨f, hf, h⟩)))
          obtain ⟨f, hf, hfx⟩ := hm
          have same : cur.filter (fun g => !pCov x.1 g.1) = cur.filter (fun g => decide (g.1 ≠ x.1)) := List.filter_congr (fun g hg => by
            by_cases w : g.1 = x.1
            · rw [w, pCov_self, decide_eq_false (fun h => h rfl)]; rfl
            · rw [decide_eq_true w]
              cases hc : pCov x.1 g.1 with
              | false => rfl
              | true => exact absurd (hG2.2.1 f hf g hg (by rw [hfx]; exact hc)) (fun h => w (by rw [← h, hfx])))
          rw [same] at p3
          exact ih' _ M3 (app_mid e) (uCh_keep hL2 f3 (by decide)) p3.1 (tGd_fil hG2 _) (fun v hs hv hh => uT_keep p3 hv (hk v hs hv hh))
      · rw [if_neg c, List.filter_cons_of_neg (show ¬ g0 x = true by show ¬ decide (x.2.1 = 0) = true; rw [decide_eq_false c]; decide)]
        exact ih' cur M2 (app_mid e) hL2 hT2 hG2 hk
  exact lp L [] o M rfl hL hT hG (fun _ _ _ h => h)
def eP (x : Int × Int × Int) : gF := (x.1, x.2.1)
theorem s_cT112 {M : gM} {on : Int} {L : List (Int × Int × Int)} (hL : uCh M L) (hl : L.length ≤ 32) (hP : ∀ x ∈ L, x.2.1 ≠ 0 → pW x.1 ∧ 10 ≤ x.2.1 ∧ x.2.1 < 2000000) {o : List gF} (hT : uT M 122 o) (hS : tSrt o) (hW : tW o) (h32 : o.length + (L.filter g1).length ≤ 32) : ∃ M1, F_changesThere_112 M on 0 = some (bI (!tClash0 (rpPt ((L.filter g1).map eP) o)), M1) ∧ uT M1 122 (rpPt ((L.filter g1).map eP) o) ∧ ∀ (v : Int) (hs : List gF), v ≠ 122 → uT M v hs → uT M1 v hs := by
  have lp : ∀ (suf pre : List (Int × Int × Int)) (cur : List gF) (M2 : gM), L = pre ++ suf → uCh M2 L → uT M2 122 cur → tSrt cur → tW cur → cur.length + (suf.filter g1).length ≤ 32 → (∀ (v : Int) (hs : List gF), v ≠ 122 → uT M v hs → uT M2 v hs) → ∃ M1, F_changesThere_112 M2 on (pre.length : Int) = some (bI (!tClash0 (rpPt ((suf.filter g1).map eP) cur)), M1) ∧ uT M1 122 (rpPt ((suf.filter g1).map eP) cur) ∧ ∀ (v : Int) (hs : List gF), v ≠ 122 → uT M v hs → uT M1 v hs := by
    intro suf
    induction suf with
    | nil =>
      intro pre cur M2 e hL2 hT2 hS2 hW2 h2 hk
      rw [List.append_nil] at e
      rw [eq_changesThere_112, hL2.1, e, if_neg (by omega), gI_bb (s_isTree hT2 hS2 hW2)]
      exact ⟨M2, rfl, hT2, hk⟩
    | cons x r ih =>
      intro pre cur M2 e hL2 hT2 hS2 hW2 h2 hk
      have hln := len_mid e
      have hx := uCh_at hL2 (at_mid e)
      have ih' := ih (pre ++ [x])
      rw [List.length_append, List.length_singleton] at ih'
      have nx : ((pre.length : Int) + 1) = ((pre.length + 1 : Nat) : Int) := by omega
      have hpx := hP x (by rw [e]; simp)
      rw [eq_changesThere_112, hL2.1, if_pos (by omega), if_pos (by omega), hx.2.1, hx.1, gw32_id (by omega) (by omega), nx]
      by_cases c : x.2.1 = 0
      · have ng : ¬ g1 x = true := by show ¬ (!decide (x.2.1 = 0)) = true; rw [decide_eq_true c]; decide
        rw [if_pos c, List.filter_cons_of_neg ng]
        rw [List.filter_cons_of_neg ng] at h2
        exact ih' cur M2 (app_mid e) hL2 hT2 hS2 hW2 h2 hk
      · have pg : g1 x = true := by show (!decide (x.2.1 = 0)) = true; rw [decide_eq_false c]; rfl
        have hp := hpx c
        rw [if_neg c, List.filter_cons_of_pos pg, List.map_cons, rpPt_cons]
        rw [List.filter_cons_of_pos pg, List.length_cons] at h2
        have l1 := tPut_len x.1 x.2.1 cur
        obtain ⟨M3, e3, p3⟩ := s_puts (w := x.1) (c := x.2.1) hT2 hS2 (by show _ ≤ (32 : Int); omega)
        have f3 : gFr [718, 719, 720] [] M2 M3 := fr_puts e3
        rw [gI_bb e3]
        exact ih' _ M3 (app_mid e) (uCh_keep hL2 f3 (by decide)) p3.1 (tPut_srt _ _ hS2) (fun y hy => by
          rcases tPut_mem hy with w | w
          · rw [w]; exact hp
          · exact hW2 y w) (by show (tPut x.1 x.2.1 cur).length + _ ≤ 32; omega) (fun v hs hv hh => uT_keep p3 hv (hk v hs hv hh))
  exact lp L [] o M rfl hL hT hS hW h32 (fun _ _ _ h => h)
theorem s_changesThere {M : gM} {on : Int} {o : List gF} {ds : List hE} (hL : uCh M (eL ds)) (hl : (eL ds).length ≤ 32) (hT : uT M on o) (hon : on ≠ 122) (hG : tGd o) (hp : ∀ x ∈ eL ds, pW x.1) (hW : ∀ x ∈ eL ds, x.2.1 ≠ 0 → pW x.1 ∧ 10 ≤ x.2.1 ∧ x.2.1 < 2000000) (h32 : o.length + (ds.filter eN).length ≤ 32) :
    ∃ M1, F_changesThere M on = some (bI (rpF ds o && !tClash0 (rpT ds o)), M1) ∧ (rpF ds o = true → uT M1 122 (rpT ds o)) ∧ ∀ (v : Int) (hs : List gF), v ≠ 122 → uT M v hs → uT M1 v hs := by
  obtain ⟨M1, e1, p1⟩ := s_copyTree (b := 122) hT (by decide) (fun w => hon w.symm) (by show _ ≤ (32 : Int); omega)
  have f1 : gFr [718, 719, 720] [] M M1 := fr_copyTree e1
  have L1 := uCh_keep hL f1 (by decide)
  have k1 : ∀ (v : Int) (hs : List gF), v ≠ 122 → uT M v hs → uT M1 v hs := fun v hs hv hh => uT_keep p1 hv hh
  rw [eq_changesThere, gI_bb e1, s_cT9 L1 hl (k1 on o hon hT), eL_all]
  cases hb : rpF ds o with
  | false => rw [if_neg (by decide), Bool.false_and]; exact ⟨M1, rfl, fun w => (by cases w), k1⟩
  | true =>
    rw [if_pos rfl, Bool.true_and]
    obtain ⟨M2, e2, L2, t2, k2⟩ := s_cT59 (on := on) L1 hl hp p1.1 hG
    rw [e2]
    have f := eL_fil ds
    have g := rpRm_gd (((eL ds).filter g0).map (fun x => x.1)) o hG
    obtain ⟨M3, e3', t3, k3⟩ := s_cT112 (on := on) L2 hl hW t2 g.1.1 g.1.2.2 (by rw [f.2, List.length_map]; omega)
    have eq : rpPt (((eL ds).filter g1).map eP) (rpRm (((eL ds).filter g0).map (fun x => x.1)) o) = rpT ds o := by
      rw [f.1, f.2, List.map_map, List.map_map]; rfl
    rw [eq] at e3' t3
    exact ⟨M3, e3', fun _ => t3, fun v hs hv hh => k3 v hs hv (k2 v hs hv (k1 v hs hv hh))⟩
