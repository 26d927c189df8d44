/-- a proof that the simplifier takes as a rewriting, not as an unfolding -/
theorem nrfl {α : Sort _} {a b : α} (h : a = b) : a = b := h
/-- what the printed functions are made of: a call's answer, a guard -/
def ob {α β : Type} (x : Option α) (f : α → Option β) : Option β := match x with
  | none => none
  | some a => f a
theorem ob_some {α β : Type} {x : Option α} {f : α → Option β} {r : β} (h : ob x f = some r) : ∃ a, x = some a ∧ f a = some r := by
  cases x with
  | none => exact absurd h (fun q => by cases q)
  | some a => exact ⟨a, rfl, h⟩
def og {β : Type} (b : Bool) (x : Option β) : Option β := if b = true then x else none
theorem og_some {β : Type} {b : Bool} {x : Option β} {r : β} (h : og b x = some r) : b = true ∧ x = some r := by
  cases b with
  | false => exact absurd h (fun q => by cases q)
  | true => exact ⟨rfl, h⟩
def inb (i : Int32) (n : Nat) : Bool := decide (¬ (i < 0 ∨ n ≤ i.toNatClampNeg))
theorem inb_in {i : Int32} {n : Nat} (h : inb i n = true) : vp_in i n := of_decide_eq_true (p := ¬ (i < 0 ∨ n ≤ i.toNatClampNeg)) h
def bz (x : Int32) : Bool := decide (x = 0 ∨ x = 1)
theorem bz_n {x : Int32} (h : bz x = true) : narrow .boolean (.int x) = .int x := by
  rcases of_decide_eq_true h with q | q <;> subst q <;> rfl
theorem bz_f {x : Int32} (h : bz x = true) : fits .boolean (.int x) = true := by
  rcases of_decide_eq_true h with q | q <;> subst q <;> rfl
def jn {α β : Type} (f : Int32 → α) (k : (Int32 → α) → β) : β := k f
theorem jn_e {α β : Type} {f : Int32 → α} {k : (Int32 → α) → β} {r : β} (h : jn f k = r) : k f = r := h
abbrev XS : Type := (Nat → Int64) × (Nat → Int64) × (Nat → Int32) × (Int32) × (Int32) × (Int32) × (Int32) × (Int64) × (Int64) × (Int32) × (Int32) × (Int32) × (Int64) × (Int32)
def x_rowRules (u : XS) : Nat → Int64 := u.1
def x_demandRules (u : XS) : Nat → Int64 := u.2.1
def x_order (u : XS) : Nat → Int32 := u.2.2.1
def x_packs (u : XS) : Int32 := u.2.2.2.1
def x_rows (u : XS) : Int32 := u.2.2.2.2.1
def x_demands (u : XS) : Int32 := u.2.2.2.2.2.1
def x_neededPacks (u : XS) : Int32 := u.2.2.2.2.2.2.1
def x_places (u : XS) : Int64 := u.2.2.2.2.2.2.2.1
def x_locked (u : XS) : Int64 := u.2.2.2.2.2.2.2.2.1
def x_leftOut (u : XS) : Int32 := u.2.2.2.2.2.2.2.2.2.1
def x_alternativesFree (u : XS) : Int32 := u.2.2.2.2.2.2.2.2.2.2.1
def x_latestIsDemand (u : XS) : Int32 := u.2.2.2.2.2.2.2.2.2.2.2.1
def x_picked (u : XS) : Int64 := u.2.2.2.2.2.2.2.2.2.2.2.2.1
def x_toBlame (u : XS) : Int32 := u.2.2.2.2.2.2.2.2.2.2.2.2.2
def xs_rowRules (u : XS) (v : Nat → Int64) : XS := (v, x_demandRules u, x_order u, x_packs u, x_rows u, x_demands u, x_neededPacks u, x_places u, x_locked u, x_leftOut u, x_alternativesFree u, x_latestIsDemand u, x_picked u, x_toBlame u)
def xs_demandRules (u : XS) (v : Nat → Int64) : XS := (x_rowRules u, v, x_order u, x_packs u, x_rows u, x_demands u, x_neededPacks u, x_places u, x_locked u, x_leftOut u, x_alternativesFree u, x_latestIsDemand u, x_picked u, x_toBlame u)
def xs_order (u : XS) (v : Nat → Int32) : XS := (x_rowRules u, x_demandRules u, v, x_packs u, x_rows u, x_demands u, x_neededPacks u, x_places u, x_locked u, x_leftOut u, x_alternativesFree u, x_latestIsDemand u, x_picked u, x_toBlame u)
def xs_packs (u : XS) (v : Int32) : XS := (x_rowRules u, x_demandRules u, x_order u, v, x_rows u, x_demands u, x_neededPacks u, x_places u, x_locked u, x_leftOut u, x_alternativesFree u, x_latestIsDemand u, x_picked u, x_toBlame u)
def xs_rows (u : XS) (v : Int32) : XS := (x_rowRules u, x_demandRules u, x_order u, x_packs u, v, x_demands u, x_neededPacks u, x_places u, x_locked u, x_leftOut u, x_alternativesFree u, x_latestIsDemand u, x_picked u, x_toBlame u)
def xs_demands (u : XS) (v : Int32) : XS := (x_rowRules u, x_demandRules u, x_order u, x_packs u, x_rows u, v, x_neededPacks u, x_places u, x_locked u, x_leftOut u, x_alternativesFree u, x_latestIsDemand u, x_picked u, x_toBlame u)
def xs_neededPacks (u : XS) (v : Int32) : XS := (x_rowRules u, x_demandRules u, x_order u, x_packs u, x_rows u, x_demands u, v, x_places u, x_locked u, x_leftOut u, x_alternativesFree u, x_latestIsDemand u, x_picked u, x_toBlame u)
def xs_places (u : XS) (v : Int64) : XS := (x_rowRules u, x_demandRules u, x_order u, x_packs u, x_rows u, x_demands u, x_neededPacks u, v, x_locked u, x_leftOut u, x_alternativesFree u, x_latestIsDemand u, x_picked u, x_toBlame u)
def xs_locked (u : XS) (v : Int64) : XS := (x_rowRules u, x_demandRules u, x_order u, x_packs u, x_rows u, x_demands u, x_neededPacks u, x_places u, v, x_leftOut u, x_alternativesFree u, x_latestIsDemand u, x_picked u, x_toBlame u)
def xs_leftOut (u : XS) (v : Int32) : XS := (x_rowRules u, x_demandRules u, x_order u, x_packs u, x_rows u, x_demands u, x_neededPacks u, x_places u, x_locked u, v, x_alternativesFree u, x_latestIsDemand u, x_picked u, x_toBlame u)
def xs_alternativesFree (u : XS) (v : Int32) : XS := (x_rowRules u, x_demandRules u, x_order u, x_packs u, x_rows u, x_demands u, x_neededPacks u, x_places u, x_locked u, x_leftOut u, v, x_latestIsDemand u, x_picked u, x_toBlame u)
def xs_latestIsDemand (u : XS) (v : Int32) : XS := (x_rowRules u, x_demandRules u, x_order u, x_packs u, x_rows u, x_demands u, x_neededPacks u, x_places u, x_locked u, x_leftOut u, x_alternativesFree u, v, x_picked u, x_toBlame u)
def xs_picked (u : XS) (v : Int64) : XS := (x_rowRules u, x_demandRules u, x_order u, x_packs u, x_rows u, x_demands u, x_neededPacks u, x_places u, x_locked u, x_leftOut u, x_alternativesFree u, x_latestIsDemand u, v, x_toBlame u)
def xs_toBlame (u : XS) (v : Int32) : XS := (x_rowRules u, x_demandRules u, x_order u, x_packs u, x_rows u, x_demands u, x_neededPacks u, x_places u, x_locked u, x_leftOut u, x_alternativesFree u, x_latestIsDemand u, x_picked u, v)
def cX (hs : Nat → Nat) (ka : Nat → ClassId) (u : XS) : va_W := [(hs 0, .inr (0, [.ref (hs 1), .ref (hs 2), .ref (hs 3), .int (x_packs u), .int (x_rows u), .int (x_demands u), .int (x_neededPacks u), .long (x_places u), .long (x_locked u), .int (x_leftOut u), .int (x_alternativesFree u), .int (x_latestIsDemand u), .long (x_picked u), .int (x_toBlame u)])), (hs 1, .inl (ka 1, 120, .inr (.inl (x_rowRules u)))), (hs 2, .inl (ka 2, 12, .inr (.inl (x_demandRules u)))), (hs 3, .inl (ka 3, 8, .inl (x_order u)))]
def tX (ka : Nat → ClassId) : List (ClassId × FieldType) := [(ka 1, .long), (ka 2, .long), (ka 3, .int)]
abbrev aX (dC : Nat → ClassId) (dI : Nat → Nat → Nat) (A : Nat → Prop) (hs : Nat → Nat) (ka : Nat → ClassId) (u : XS) (t : State) : Prop := va_P (dC, dI) vwCl (cX hs ka u) t.heap ∧ va_K (dC, dI) vwCl (tX ka) t ∧ va_D A (cX hs ka u)
abbrev MS : Type := (Int32) × (Nat → Int32) × (Nat → Int32) × (Nat → Int32) × (Nat → Int32) × (Nat → Int32) × (Nat → Int32) × (Nat → Int32) × (Int32) × (Int32) × (Int32) × (Int32) × (Nat → Int32) × (Nat → Int32) × (Nat → Int32) × (Nat → Int32) × (Nat → Int32) × (Nat → Int32) × (Nat → Int32) × (Nat → Int32) × (Int32) × (Nat → Int32) × (Int32)
def m_code (u : MS) : Int32 := u.1
def m_versions (u : MS) : Nat → Int32 := u.2.1
def m_locks (u : MS) : Nat → Int32 := u.2.2.1
def m_chosen (u : MS) : Nat → Int32 := u.2.2.2.1
def m_value (u : MS) : Nat → Int32 := u.2.2.2.2.1
def m_order (u : MS) : Nat → Int32 := u.2.2.2.2.2.1
def m_option (u : MS) : Nat → Int32 := u.2.2.2.2.2.2.1
def m_blames0 (u : MS) : Nat → Int32 := u.2.2.2.2.2.2.2.1
def m_packages (u : MS) : Int32 := u.2.2.2.2.2.2.2.2.1
def m_rows (u : MS) : Int32 := u.2.2.2.2.2.2.2.2.2.1
def m_demands (u : MS) : Int32 := u.2.2.2.2.2.2.2.2.2.2.1
def m_needed (u : MS) : Int32 := u.2.2.2.2.2.2.2.2.2.2.2.1
def m_pack (u : MS) : Nat → Int32 := u.2.2.2.2.2.2.2.2.2.2.2.2.1
def m_version (u : MS) : Nat → Int32 := u.2.2.2.2.2.2.2.2.2.2.2.2.2.1
def m_kind (u : MS) : Nat → Int32 := u.2.2.2.2.2.2.2.2.2.2.2.2.2.2.1
def m_many (u : MS) : Nat → Int32 := u.2.2.2.2.2.2.2.2.2.2.2.2.2.2.2.1
def m_other (u : MS) : Nat → Int32 := u.2.2.2.2.2.2.2.2.2.2.2.2.2.2.2.2.1
def m_set (u : MS) : Nat → Int32 := u.2.2.2.2.2.2.2.2.2.2.2.2.2.2.2.2.2.1
def m_out (u : MS) : Nat → Int32 := u.2.2.2.2.2.2.2.2.2.2.2.2.2.2.2.2.2.2.1
def m_away (u : MS) : Nat → Int32 := u.2.2.2.2.2.2.2.2.2.2.2.2.2.2.2.2.2.2.2.1
def m_latest (u : MS) : Int32 := u.2.2.2.2.2.2.2.2.2.2.2.2.2.2.2.2.2.2.2.2.1
def m_blamed (u : MS) : Nat → Int32 := u.2.2.2.2.2.2.2.2.2.2.2.2.2.2.2.2.2.2.2.2.2.1
def m_blames (u : MS) : Int32 := u.2.2.2.2.2.2.2.2.2.2.2.2.2.2.2.2.2.2.2.2.2.2
def ms_code (u : MS) (v : Int32) : MS := (v, m_versions u, m_locks u, m_chosen u, m_value u, m_order u, m_option u, m_blames0 u, m_packages u, m_rows u, m_demands u, m_needed u, m_pack u, m_version u, m_kind u, m_many u, m_other u, m_set u, m_out u, m_away u, m_latest u, m_blamed u, m_blames u)
def ms_versions (u : MS) (v : Nat → Int32) : MS := (m_code u, v, m_locks u, m_chosen u, m_value u, m_order u, m_option u, m_blames0 u, m_packages u, m_rows u, m_demands u, m_needed u, m_pack u, m_version u, m_kind u, m_many u, m_other u, m_set u, m_out u, m_away u, m_latest u, m_blamed u, m_blames u)
def ms_locks (u : MS) (v : Nat → Int32) : MS := (m_code u, m_versions u, v, m_chosen u, m_value u, m_order u, m_option u, m_blames0 u, m_packages u, m_rows u, m_demands u, m_needed u, m_pack u, m_version u, m_kind u, m_many u, m_other u, m_set u, m_out u, m_away u, m_latest u, m_blamed u, m_blames u)
def ms_chosen (u : MS) (v : Nat → Int32) : MS := (m_code u, m_versions u, m_locks u, v, m_value u, m_order u, m_option u, m_blames0 u, m_packages u, m_rows u, m_demands u, m_needed u, m_pack u, m_version u, m_kind u, m_many u, m_other u, m_set u, m_out u, m_away u, m_latest u, m_blamed u, m_blames u)
def ms_value (u : MS) (v : Nat → Int32) : MS := (m_code u, m_versions u, m_locks u, m_chosen u, v, m_order u, m_option u, m_blames0 u, m_packages u, m_rows u, m_demands u, m_needed u, m_pack u, m_version u, m_kind u, m_many u, m_other u, m_set u, m_out u, m_away u, m_latest u, m_blamed u, m_blames u)
def ms_order (u : MS) (v : Nat → Int32) : MS := (m_code u, m_versions u, m_locks u, m_chosen u, m_value u, v, m_option u, m_blames0 u, m_packages u, m_rows u, m_demands u, m_needed u, m_pack u, m_version u, m_kind u, m_many u, m_other u, m_set u, m_out u, m_away u, m_latest u, m_blamed u, m_blames u)
def ms_option (u : MS) (v : Nat → Int32) : MS := (m_code u, m_versions u, m_locks u, m_chosen u, m_value u, m_order u, v, m_blames0 u, m_packages u, m_rows u, m_demands u, m_needed u, m_pack u, m_version u, m_kind u, m_many u, m_other u, m_set u, m_out u, m_away u, m_latest u, m_blamed u, m_blames u)
def ms_blames0 (u : MS) (v : Nat → Int32) : MS := (m_code u, m_versions u, m_locks u, m_chosen u, m_value u, m_order u, m_option u, v, m_packages u, m_rows u, m_demands u, m_needed u, m_pack u, m_version u, m_kind u, m_many u, m_other u, m_set u, m_out u, m_away u, m_latest u, m_blamed u, m_blames u)
def ms_packages (u : MS) (v : Int32) : MS := (m_code u, m_versions u, m_locks u, m_chosen u, m_value u, m_order u, m_option u, m_blames0 u, v, m_rows u, m_demands u, m_needed u, m_pack u, m_version u, m_kind u, m_many u, m_other u, m_set u, m_out u, m_away u, m_latest u, m_blamed u, m_blames u)
def ms_rows (u : MS) (v : Int32) : MS := (m_code u, m_versions u, m_locks u, m_chosen u, m_value u, m_order u, m_option u, m_blames0 u, m_packages u, v, m_demands u, m_needed u, m_pack u, m_version u, m_kind u, m_many u, m_other u, m_set u, m_out u, m_away u, m_latest u, m_blamed u, m_blames u)
def ms_demands (u : MS) (v : Int32) : MS := (m_code u, m_versions u, m_locks u, m_chosen u, m_value u, m_order u, m_option u, m_blames0 u, m_packages u, m_rows u, v, m_needed u, m_pack u, m_version u, m_kind u, m_many u, m_other u, m_set u, m_out u, m_away u, m_latest u, m_blamed u, m_blames u)
def ms_needed (u : MS) (v : Int32) : MS := (m_code u, m_versions u, m_locks u, m_chosen u, m_value u, m_order u, m_option u, m_blames0 u, m_packages u, m_rows u, m_demands u, v, m_pack u, m_version u, m_kind u, m_many u, m_other u, m_set u, m_out u, m_away u, m_latest u, m_blamed u, m_blames u)
def ms_pack (u : MS) (v : Nat → Int32) : MS := (m_code u, m_versions u, m_locks u, m_chosen u, m_value u, m_order u, m_option u, m_blames0 u, m_packages u, m_rows u, m_demands u, m_needed u, v, m_version u, m_kind u, m_many u, m_other u, m_set u, m_out u, m_away u, m_latest u, m_blamed u, m_blames u)
def ms_version (u : MS) (v : Nat → Int32) : MS := (m_code u, m_versions u, m_locks u, m_chosen u, m_value u, m_order u, m_option u, m_blames0 u, m_packages u, m_rows u, m_demands u, m_needed u, m_pack u, v, m_kind u, m_many u, m_other u, m_set u, m_out u, m_away u, m_latest u, m_blamed u, m_blames u)
def ms_kind (u : MS) (v : Nat → Int32) : MS := (m_code u, m_versions u, m_locks u, m_chosen u, m_value u, m_order u, m_option u, m_blames0 u, m_packages u, m_rows u, m_demands u, m_needed u, m_pack u, m_version u, v, m_many u, m_other u, m_set u, m_out u, m_away u, m_latest u, m_blamed u, m_blames u)
def ms_many (u : MS) (v : Nat → Int32) : MS := (m_code u, m_versions u, m_locks u, m_chosen u, m_value u, m_order u, m_option u, m_blames0 u, m_packages u, m_rows u, m_demands u, m_needed u, m_pack u, m_version u, m_kind u, v, m_other u, m_set u, m_out u, m_away u, m_latest u, m_blamed u, m_blames u)
def ms_other (u : MS) (v : Nat → Int32) : MS := (m_code u, m_versions u, m_locks u, m_chosen u, m_value u, m_order u, m_option u, m_blames0 u, m_packages u, m_rows u, m_demands u, m_needed u, m_pack u, m_version u, m_kind u, m_many u, v, m_set u, m_out u, m_away u, m_latest u, m_blamed u, m_blames u)
def ms_set (u : MS) (v : Nat → Int32) : MS := (m_code u, m_versions u, m_locks u, m_chosen u, m_value u, m_order u, m_option u, m_blames0 u, m_packages u, m_rows u, m_demands u, m_needed u, m_pack u, m_version u, m_kind u, m_many u, m_other u, v, m_out u, m_away u, m_latest u, m_blamed u, m_blames u)
def ms_out (u : MS) (v : Nat → Int32) : MS := (m_code u, m_versions u, m_locks u, m_chosen u, m_value u, m_order u, m_option u, m_blames0 u, m_packages u, m_rows u, m_demands u, m_needed u, m_pack u, m_version u, m_kind u, m_many u, m_other u, m_set u, v, m_away u, m_latest u, m_blamed u, m_blames u)
def ms_away (u : MS) (v : Nat → Int32) : MS := (m_code u, m_versions u, m_locks u, m_chosen u, m_value u, m_order u, m_option u, m_blames0 u, m_packages u, m_rows u, m_demands u, m_needed u, m_pack u, m_version u, m_kind u, m_many u, m_other u, m_set u, m_out u, v, m_latest u, m_blamed u, m_blames u)
def ms_latest (u : MS) (v : Int32) : MS := (m_code u, m_versions u, m_locks u, m_chosen u, m_value u, m_order u, m_option u, m_blames0 u, m_packages u, m_rows u, m_demands u, m_needed u, m_pack u, m_version u, m_kind u, m_many u, m_other u, m_set u, m_out u, m_away u, v, m_blamed u, m_blames u)
def ms_blamed (u : MS) (v : Nat → Int32) : MS := (m_code u, m_versions u, m_locks u, m_chosen u, m_value u, m_order u, m_option u, m_blames0 u, m_packages u, m_rows u, m_demands u, m_needed u, m_pack u, m_version u, m_kind u, m_many u, m_other u, m_set u, m_out u, m_away u, m_latest u, v, m_blames u)
def ms_blames (u : MS) (v : Int32) : MS := (m_code u, m_versions u, m_locks u, m_chosen u, m_value u, m_order u, m_option u, m_blames0 u, m_packages u, m_rows u, m_demands u, m_needed u, m_pack u, m_version u, m_kind u, m_many u, m_other u, m_set u, m_out u, m_away u, m_latest u, m_blamed u, v)
def cM (hs : Nat → Nat) (ka : Nat → ClassId) (u : MS) : va_W := [(hs 0, .inr (1, [.int (m_code u), .ref (hs 1), .ref (hs 2), .ref (hs 3), .ref (hs 4), .ref (hs 5), .ref (hs 6), .ref (hs 7), .int (m_packages u), .int (m_rows u), .int (m_demands u), .int (m_needed u), .ref (hs 8), .ref (hs 9), .ref (hs 10), .ref (hs 11), .ref (hs 12), .ref (hs 13), .ref (hs 14), .ref (hs 15), .int (m_latest u), .ref (hs 16), .int (m_blames u)])), (hs 1, .inl (ka 1, 8, .inl (m_versions u))), (hs 2, .inl (ka 2, 8, .inl (m_locks u))), (hs 3, .inl (ka 3, 8, .inl (m_chosen u))), (hs 4, .inl (ka 4, 8, .inl (m_value u))), (hs 5, .inl (ka 5, 8, .inl (m_order u))), (hs 6, .inl (ka 6, 8, .inl (m_option u))), (hs 7, .inl (ka 7, 8, .inl (m_blames0 u))), (hs 8, .inl (ka 8, 132, .inl (m_pack u))), (hs 9, .inl (ka 9, 132, .inl (m_version u))), (hs 10, .inl (ka 10, 132, .inl (m_kind u))), (hs 11, .inl (ka 11, 132, .inl (m_many u))), (hs 12, .inl (ka 12, 396, .inl (m_other u))), (hs 13, .inl (ka 13, 396, .inl (m_set u))), (hs 14, .inl (ka 14, 12, .inl (m_out u))), (hs 15, .inl (ka 15, 12, .inl (m_away u))), (hs 16, .inl (ka 16, 12, .inl (m_blamed u)))]
def tM (ka : Nat → ClassId) : List (ClassId × FieldType) := [(ka 1, .int), (ka 2, .int), (ka 3, .int), (ka 4, .int), (ka 5, .int), (ka 6, .int), (ka 7, .int), (ka 8, .int), (ka 9, .int), (ka 10, .int), (ka 11, .int), (ka 12, .int), (ka 13, .int), (ka 14, .boolean), (ka 15, .boolean), (ka 16, .int)]
abbrev aM (dC : Nat → ClassId) (dI : Nat → Nat → Nat) (A : Nat → Prop) (hs : Nat → Nat) (ka : Nat → ClassId) (u : MS) (t : State) : Prop := va_P (dC, dI) vwCl (cM hs ka u) t.heap ∧ va_K (dC, dI) vwCl (tM ka) t ∧ va_D A (cM hs ka u)
abbrev aS (dC : Nat → ClassId) (dI : Nat → Nat → Nat) (A : Nat → Prop) (_ : Unit) (t : State) : Prop := va_P (dC, dI) vwCl ([] : va_W) t.heap ∧ va_K (dC, dI) vwCl ([] : List (ClassId × FieldType)) t ∧ va_D A ([] : va_W)
def RMfw (k : Nat) : Room := { frames := 4 + 2 * k, cells := 0, slots := 0, locals := 150 + 70 * k }
def RMfo (k : Nat) : Room := { frames := 5 + 2 * k, cells := 0, slots := 0, locals := 180 + 70 * k }
