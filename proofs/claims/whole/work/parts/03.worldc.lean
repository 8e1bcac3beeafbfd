/-! the class's world: 71 cells, state σ : id → place → value (scalars at place 0) -/
/-- classes and slots; array classes; addresses; the String constants' addresses and those of their bytes -/
abbrev Geo : Type := va_G × (Nat → ClassId) × (Nat → Nat) × ((Nat → Nat) × (Nat → Nat))
abbrev Sg : Type := Nat → Nat → Int32
def upA (σ : Sg) (id : Nat) (F : Nat → Int32) : Sg := fun a => if a = id then F else σ a
def up (σ : Sg) (id j : Nat) (v : Int32) : Sg := upA σ id (upd (σ id) j v)
abbrev tysC (Γ : Geo) : List (ClassId × FieldType) := [(Γ.2.1 0, .int), (Γ.2.1 1, .long), (Γ.2.1 2, .boolean), (Γ.2.1 3, .object "OtherHalfOfNight$Sheet"), (Γ.2.1 4, .object "OtherHalfOfNight$Text"), (Γ.2.1 5, .array .int)]
abbrev fsMain (Γ : Geo) (σ : Sg) : List Value := [.ref (Γ.2.2.1 (1 + 8 * 0)), .ref (Γ.2.2.1 (1 + 8 * 1)), .ref (Γ.2.2.1 (1 + 8 * 2)), .int (σ (33) 0), .ref (Γ.2.2.1 (25)), .ref (Γ.2.2.1 (27)), .ref (Γ.2.2.1 (51)), .ref (Γ.2.2.1 (58)), .ref (Γ.2.2.1 (62))]
abbrev fsHouse (Γ : Geo) (σ : Sg) (i : Nat) : List Value := [.int (σ (11 * i) 0), .int (σ (11 * i + 1) 0), .int (σ (11 * i + 2) 0), .int (σ (11 * i + 3) 0), .ref (Γ.2.2.1 (2 + 8 * i)), .ref (Γ.2.2.1 (3 + 8 * i)), .ref (Γ.2.2.1 (4 + 8 * i)), .ref (Γ.2.2.1 (5 + 8 * i)), .ref (Γ.2.2.1 (6 + 8 * i)), .ref (Γ.2.2.1 (7 + 8 * i)), .ref (Γ.2.2.1 (8 + 8 * i))]
abbrev fsReader (Γ : Geo) (σ : Sg) : List Value := [.ref (Γ.2.2.1 (26)), .int (σ (35) 0), .ref (Γ.2.2.1 (30 + 3 * (σ (40) 0).toNatClampNeg)), .int (σ (36) 0), .int (σ (37) 0), .int (σ (38) 0), .int (σ (39) 0)]
abbrev fsLaw (Γ : Geo) (σ : Sg) : List Value := [.ref (Γ.2.2.1 (28)), .int (σ (41) 0), .ref (Γ.2.2.1 (29))]
abbrev fsText (Γ : Geo) (σ : Sg) (i : Nat) : List Value := [.ref (Γ.2.2.1 (31 + 3 * i)), .ref (Γ.2.2.1 (32 + 3 * i)), .int (σ (43 + 3 * i) 0)]
abbrev fsPouring (Γ : Geo) (σ : Sg) : List Value := [.ref (Γ.2.2.1 (52))]
abbrev fsDemand (Γ : Geo) (σ : Sg) : List Value := [.int (σ (69) 0), .ref (Γ.2.2.1 (59)), .ref (Γ.2.2.1 (60)), .ref (Γ.2.2.1 (61))]
abbrev fsSheet (Γ : Geo) (σ : Sg) (i : Nat) : List Value := [.int (σ (73 + 3 * i) 0), .int (σ (74 + 3 * i) 0), .ref (Γ.2.2.1 (64 + 2 * i))]
def XC (Γ : Geo) (σ : Sg) : va_W := [((Γ.2.2.1 (0)), .inr (7, fsMain Γ σ)),
  ((Γ.2.2.1 (1 + 8 * 0)), .inr (1, fsHouse Γ σ 0)),
  ((Γ.2.2.1 (2 + 8 * 0)), .inl (Γ.2.1 0, 5, .inl ((σ (11 * 0 + 4))))),
  ((Γ.2.2.1 (3 + 8 * 0)), .inl (Γ.2.1 0, 5, .inl ((σ (11 * 0 + 5))))),
  ((Γ.2.2.1 (4 + 8 * 0)), .inl (Γ.2.1 0, 5, .inl ((σ (11 * 0 + 6))))),
  ((Γ.2.2.1 (5 + 8 * 0)), .inl (Γ.2.1 0, 5, .inl ((σ (11 * 0 + 7))))),
  ((Γ.2.2.1 (6 + 8 * 0)), .inl (Γ.2.1 0, 6, .inl ((σ (11 * 0 + 8))))),
  ((Γ.2.2.1 (7 + 8 * 0)), .inl (Γ.2.1 0, 6, .inl ((σ (11 * 0 + 9))))),
  ((Γ.2.2.1 (8 + 8 * 0)), .inl (Γ.2.1 0, 6, .inl ((σ (11 * 0 + 10))))),
  ((Γ.2.2.1 (1 + 8 * 1)), .inr (1, fsHouse Γ σ 1)),
  ((Γ.2.2.1 (2 + 8 * 1)), .inl (Γ.2.1 0, 5, .inl ((σ (11 * 1 + 4))))),
  ((Γ.2.2.1 (3 + 8 * 1)), .inl (Γ.2.1 0, 5, .inl ((σ (11 * 1 + 5))))),
  ((Γ.2.2.1 (4 + 8 * 1)), .inl (Γ.2.1 0, 5, .inl ((σ (11 * 1 + 6))))),
  ((Γ.2.2.1 (5 + 8 * 1)), .inl (Γ.2.1 0, 5, .inl ((σ (11 * 1 + 7))))),
  ((Γ.2.2.1 (6 + 8 * 1)), .inl (Γ.2.1 0, 6, .inl ((σ (11 * 1 + 8))))),
  ((Γ.2.2.1 (7 + 8 * 1)), .inl (Γ.2.1 0, 6, .inl ((σ (11 * 1 + 9))))),
  ((Γ.2.2.1 (8 + 8 * 1)), .inl (Γ.2.1 0, 6, .inl ((σ (11 * 1 + 10))))),
  ((Γ.2.2.1 (1 + 8 * 2)), .inr (1, fsHouse Γ σ 2)),
  ((Γ.2.2.1 (2 + 8 * 2)), .inl (Γ.2.1 0, 5, .inl ((σ (11 * 2 + 4))))),
  ((Γ.2.2.1 (3 + 8 * 2)), .inl (Γ.2.1 0, 5, .inl ((σ (11 * 2 + 5))))),
  ((Γ.2.2.1 (4 + 8 * 2)), .inl (Γ.2.1 0, 5, .inl ((σ (11 * 2 + 6))))),
  ((Γ.2.2.1 (5 + 8 * 2)), .inl (Γ.2.1 0, 5, .inl ((σ (11 * 2 + 7))))),
  ((Γ.2.2.1 (6 + 8 * 2)), .inl (Γ.2.1 0, 6, .inl ((σ (11 * 2 + 8))))),
  ((Γ.2.2.1 (7 + 8 * 2)), .inl (Γ.2.1 0, 6, .inl ((σ (11 * 2 + 9))))),
  ((Γ.2.2.1 (8 + 8 * 2)), .inl (Γ.2.1 0, 6, .inl ((σ (11 * 2 + 10))))),
  ((Γ.2.2.1 (25)), .inr (4, fsReader Γ σ)),
  ((Γ.2.2.1 (26)), .inl (Γ.2.1 0, 160, .inl ((σ (34))))),
  ((Γ.2.2.1 (27)), .inr (2, fsLaw Γ σ)),
  ((Γ.2.2.1 (28)), .inl (Γ.2.1 4, 6, .inr (.inr (.inr (.inr (fun j => some (Γ.2.2.1 (30 + 3 * j)))))))),
  ((Γ.2.2.1 (29)), .inl (Γ.2.1 0, 32, .inl ((σ (42))))),
  ((Γ.2.2.1 (30 + 3 * 0)), .inr (6, fsText Γ σ 0)),
  ((Γ.2.2.1 (31 + 3 * 0)), .inl (Γ.2.1 0, 160, .inl ((σ (44 + 3 * 0))))),
  ((Γ.2.2.1 (32 + 3 * 0)), .inl (Γ.2.1 0, 3, .inl ((σ (45 + 3 * 0))))),
  ((Γ.2.2.1 (30 + 3 * 1)), .inr (6, fsText Γ σ 1)),
  ((Γ.2.2.1 (31 + 3 * 1)), .inl (Γ.2.1 0, 160, .inl ((σ (44 + 3 * 1))))),
  ((Γ.2.2.1 (32 + 3 * 1)), .inl (Γ.2.1 0, 3, .inl ((σ (45 + 3 * 1))))),
  ((Γ.2.2.1 (30 + 3 * 2)), .inr (6, fsText Γ σ 2)),
  ((Γ.2.2.1 (31 + 3 * 2)), .inl (Γ.2.1 0, 160, .inl ((σ (44 + 3 * 2))))),
  ((Γ.2.2.1 (32 + 3 * 2)), .inl (Γ.2.1 0, 3, .inl ((σ (45 + 3 * 2))))),
  ((Γ.2.2.1 (30 + 3 * 3)), .inr (6, fsText Γ σ 3)),
  ((Γ.2.2.1 (31 + 3 * 3)), .inl (Γ.2.1 0, 160, .inl ((σ (44 + 3 * 3))))),
  ((Γ.2.2.1 (32 + 3 * 3)), .inl (Γ.2.1 0, 3, .inl ((σ (45 + 3 * 3))))),
  ((Γ.2.2.1 (30 + 3 * 4)), .inr (6, fsText Γ σ 4)),
  ((Γ.2.2.1 (31 + 3 * 4)), .inl (Γ.2.1 0, 160, .inl ((σ (44 + 3 * 4))))),
  ((Γ.2.2.1 (32 + 3 * 4)), .inl (Γ.2.1 0, 3, .inl ((σ (45 + 3 * 4))))),
  ((Γ.2.2.1 (30 + 3 * 5)), .inr (6, fsText Γ σ 5)),
  ((Γ.2.2.1 (31 + 3 * 5)), .inl (Γ.2.1 0, 160, .inl ((σ (44 + 3 * 5))))),
  ((Γ.2.2.1 (32 + 3 * 5)), .inl (Γ.2.1 0, 3, .inl ((σ (45 + 3 * 5))))),
  ((Γ.2.2.1 (30 + 3 * 6)), .inr (6, fsText Γ σ 6)),
  ((Γ.2.2.1 (31 + 3 * 6)), .inl (Γ.2.1 0, 160, .inl ((σ (44 + 3 * 6))))),
  ((Γ.2.2.1 (32 + 3 * 6)), .inl (Γ.2.1 0, 3, .inl ((σ (45 + 3 * 6))))),
  ((Γ.2.2.1 (51)), .inr (3, fsPouring Γ σ)),
  ((Γ.2.2.1 (52)), .inl (Γ.2.1 5, 5, .inr (.inr (.inr (.inr (fun j => some (Γ.2.2.1 (53 + j)))))))),
  ((Γ.2.2.1 (53 + 0)), .inl (Γ.2.1 0, 6, .inl ((σ (64 + 0))))),
  ((Γ.2.2.1 (53 + 1)), .inl (Γ.2.1 0, 6, .inl ((σ (64 + 1))))),
  ((Γ.2.2.1 (53 + 2)), .inl (Γ.2.1 0, 6, .inl ((σ (64 + 2))))),
  ((Γ.2.2.1 (53 + 3)), .inl (Γ.2.1 0, 6, .inl ((σ (64 + 3))))),
  ((Γ.2.2.1 (53 + 4)), .inl (Γ.2.1 0, 6, .inl ((σ (64 + 4))))),
  ((Γ.2.2.1 (58)), .inr (0, fsDemand Γ σ)),
  ((Γ.2.2.1 (59)), .inl (Γ.2.1 0, 5, .inl ((σ (70))))),
  ((Γ.2.2.1 (60)), .inl (Γ.2.1 0, 5, .inl ((σ (71))))),
  ((Γ.2.2.1 (61)), .inl (Γ.2.1 0, 6, .inl ((σ (72))))),
  ((Γ.2.2.1 (62)), .inl (Γ.2.1 3, 4, .inr (.inr (.inr (.inr (fun j => some (Γ.2.2.1 (63 + 2 * j)))))))),
  ((Γ.2.2.1 (63 + 2 * 0)), .inr (5, fsSheet Γ σ 0)),
  ((Γ.2.2.1 (64 + 2 * 0)), .inl (Γ.2.1 0, 40, .inl ((σ (75 + 3 * 0))))),
  ((Γ.2.2.1 (63 + 2 * 1)), .inr (5, fsSheet Γ σ 1)),
  ((Γ.2.2.1 (64 + 2 * 1)), .inl (Γ.2.1 0, 40, .inl ((σ (75 + 3 * 1))))),
  ((Γ.2.2.1 (63 + 2 * 2)), .inr (5, fsSheet Γ σ 2)),
  ((Γ.2.2.1 (64 + 2 * 2)), .inl (Γ.2.1 0, 40, .inl ((σ (75 + 3 * 2))))),
  ((Γ.2.2.1 (63 + 2 * 3)), .inr (5, fsSheet Γ σ 3)),
  ((Γ.2.2.1 (64 + 2 * 3)), .inl (Γ.2.1 0, 40, .inl ((σ (75 + 3 * 3)))))]
def alC (Γ : Geo) : List Nat := (List.range 71).map Γ.2.2.1
theorem halC (Γ : Geo) (σ : Sg) : (XC Γ σ).map Prod.fst = alC Γ := rfl
/-- what a geometry must be -/
def okC (Γ : Geo) : Prop := wNd (alC Γ)
theorem gC_Main (Γ : Geo) (σ : Sg) : (XC Γ σ)[0]? = some ((Γ.2.2.1 (0)), .inr (7, fsMain Γ σ)) := rfl
theorem sC_Main_hasKept (Γ : Geo) (σ : Sg) (v : Int32) : (XC Γ σ).set (0) ((Γ.2.2.1 (0)), .inr (7, (fsMain Γ σ).set 3 (.int v))) = XC Γ (up σ (33) 0 v) := rfl
theorem gC_House (Γ : Geo) (σ : Sg) (i : Nat) (hi : i < 3) : (XC Γ σ)[1 + 8 * i]? = some ((Γ.2.2.1 (1 + 8 * i)), .inr (1, fsHouse Γ σ i)) := by
  match i, hi with
  | 0, _ => rfl
  | 1, _ => rfl
  | 2, _ => rfl
theorem sC_House_night (Γ : Geo) (σ : Sg) (i : Nat) (hi : i < 3) (v : Int32) : (XC Γ σ).set (1 + 8 * i) ((Γ.2.2.1 (1 + 8 * i)), .inr (1, (fsHouse Γ σ i).set 0 (.int v))) = XC Γ (up σ (11 * i) 0 v) := by
  match i, hi with
  | 0, _ => rfl
  | 1, _ => rfl
  | 2, _ => rfl
theorem sC_House_hour (Γ : Geo) (σ : Sg) (i : Nat) (hi : i < 3) (v : Int32) : (XC Γ σ).set (1 + 8 * i) ((Γ.2.2.1 (1 + 8 * i)), .inr (1, (fsHouse Γ σ i).set 1 (.int v))) = XC Γ (up σ (11 * i + 1) 0 v) := by
  match i, hi with
  | 0, _ => rfl
  | 1, _ => rfl
  | 2, _ => rfl
theorem sC_House_rule (Γ : Geo) (σ : Sg) (i : Nat) (hi : i < 3) (v : Int32) : (XC Γ σ).set (1 + 8 * i) ((Γ.2.2.1 (1 + 8 * i)), .inr (1, (fsHouse Γ σ i).set 2 (.int v))) = XC Γ (up σ (11 * i + 2) 0 v) := by
  match i, hi with
  | 0, _ => rfl
  | 1, _ => rfl
  | 2, _ => rfl
theorem sC_House_ones (Γ : Geo) (σ : Sg) (i : Nat) (hi : i < 3) (v : Int32) : (XC Γ σ).set (1 + 8 * i) ((Γ.2.2.1 (1 + 8 * i)), .inr (1, (fsHouse Γ σ i).set 3 (.int v))) = XC Γ (up σ (11 * i + 3) 0 v) := by
  match i, hi with
  | 0, _ => rfl
  | 1, _ => rfl
  | 2, _ => rfl
theorem gC_Reader (Γ : Geo) (σ : Sg) : (XC Γ σ)[25]? = some ((Γ.2.2.1 (25)), .inr (4, fsReader Γ σ)) := rfl
theorem sC_Reader_size (Γ : Geo) (σ : Sg) (v : Int32) : (XC Γ σ).set (25) ((Γ.2.2.1 (25)), .inr (4, (fsReader Γ σ).set 1 (.int v))) = XC Γ (up σ (35) 0 v) := rfl
theorem sC_Reader_text (Γ : Geo) (σ : Sg) (k : Nat) (hk : k < 7) : (XC Γ σ).set (25) ((Γ.2.2.1 (25)), .inr (4, (fsReader Γ σ).set 2 (.ref (Γ.2.2.1 (30 + 3 * k))))) = XC Γ (up σ (40) 0 (nI k)) := by
  match k, hk with
  | 0, _ => rfl
  | 1, _ => rfl
  | 2, _ => rfl
  | 3, _ => rfl
  | 4, _ => rfl
  | 5, _ => rfl
  | 6, _ => rfl
theorem sC_Reader_at (Γ : Geo) (σ : Sg) (v : Int32) : (XC Γ σ).set (25) ((Γ.2.2.1 (25)), .inr (4, (fsReader Γ σ).set 3 (.int v))) = XC Γ (up σ (36) 0 v) := rfl
theorem sC_Reader_start (Γ : Geo) (σ : Sg) (v : Int32) : (XC Γ σ).set (25) ((Γ.2.2.1 (25)), .inr (4, (fsReader Γ σ).set 4 (.int v))) = XC Γ (up σ (37) 0 v) := rfl
theorem sC_Reader_token (Γ : Geo) (σ : Sg) (v : Int32) : (XC Γ σ).set (25) ((Γ.2.2.1 (25)), .inr (4, (fsReader Γ σ).set 5 (.int v))) = XC Γ (up σ (38) 0 v) := rfl
theorem sC_Reader_literal (Γ : Geo) (σ : Sg) (v : Int32) : (XC Γ σ).set (25) ((Γ.2.2.1 (25)), .inr (4, (fsReader Γ σ).set 6 (.int v))) = XC Γ (up σ (39) 0 v) := rfl
theorem gC_Law (Γ : Geo) (σ : Sg) : (XC Γ σ)[27]? = some ((Γ.2.2.1 (27)), .inr (2, fsLaw Γ σ)) := rfl
theorem sC_Law_many (Γ : Geo) (σ : Sg) (v : Int32) : (XC Γ σ).set (27) ((Γ.2.2.1 (27)), .inr (2, (fsLaw Γ σ).set 1 (.int v))) = XC Γ (up σ (41) 0 v) := rfl
theorem gC_Text (Γ : Geo) (σ : Sg) (i : Nat) (hi : i < 7) : (XC Γ σ)[30 + 3 * i]? = some ((Γ.2.2.1 (30 + 3 * i)), .inr (6, fsText Γ σ i)) := by
  match i, hi with
  | 0, _ => rfl
  | 1, _ => rfl
  | 2, _ => rfl
  | 3, _ => rfl
  | 4, _ => rfl
  | 5, _ => rfl
  | 6, _ => rfl
theorem sC_Text_size (Γ : Geo) (σ : Sg) (i : Nat) (hi : i < 7) (v : Int32) : (XC Γ σ).set (30 + 3 * i) ((Γ.2.2.1 (30 + 3 * i)), .inr (6, (fsText Γ σ i).set 2 (.int v))) = XC Γ (up σ (43 + 3 * i) 0 v) := by
  match i, hi with
  | 0, _ => rfl
  | 1, _ => rfl
  | 2, _ => rfl
  | 3, _ => rfl
  | 4, _ => rfl
  | 5, _ => rfl
  | 6, _ => rfl
theorem gC_Pouring (Γ : Geo) (σ : Sg) : (XC Γ σ)[51]? = some ((Γ.2.2.1 (51)), .inr (3, fsPouring Γ σ)) := rfl
theorem gC_Demand (Γ : Geo) (σ : Sg) : (XC Γ σ)[58]? = some ((Γ.2.2.1 (58)), .inr (0, fsDemand Γ σ)) := rfl
theorem sC_Demand_ones (Γ : Geo) (σ : Sg) (v : Int32) : (XC Γ σ).set (58) ((Γ.2.2.1 (58)), .inr (0, (fsDemand Γ σ).set 0 (.int v))) = XC Γ (up σ (69) 0 v) := rfl
theorem gC_Sheet (Γ : Geo) (σ : Sg) (i : Nat) (hi : i < 4) : (XC Γ σ)[63 + 2 * i]? = some ((Γ.2.2.1 (63 + 2 * i)), .inr (5, fsSheet Γ σ i)) := by
  match i, hi with
  | 0, _ => rfl
  | 1, _ => rfl
  | 2, _ => rfl
  | 3, _ => rfl
theorem sC_Sheet_sort (Γ : Geo) (σ : Sg) (i : Nat) (hi : i < 4) (v : Int32) : (XC Γ σ).set (63 + 2 * i) ((Γ.2.2.1 (63 + 2 * i)), .inr (5, (fsSheet Γ σ i).set 0 (.int v))) = XC Γ (up σ (73 + 3 * i) 0 v) := by
  match i, hi with
  | 0, _ => rfl
  | 1, _ => rfl
  | 2, _ => rfl
  | 3, _ => rfl
theorem sC_Sheet_size (Γ : Geo) (σ : Sg) (i : Nat) (hi : i < 4) (v : Int32) : (XC Γ σ).set (63 + 2 * i) ((Γ.2.2.1 (63 + 2 * i)), .inr (5, (fsSheet Γ σ i).set 1 (.int v))) = XC Γ (up σ (74 + 3 * i) 0 v) := by
  match i, hi with
  | 0, _ => rfl
  | 1, _ => rfl
  | 2, _ => rfl
  | 3, _ => rfl
theorem gC_House_kind (Γ : Geo) (σ : Sg) (i : Nat) (hi : i < 3) : (XC Γ σ)[2 + 8 * i]? = some ((Γ.2.2.1 (2 + 8 * i)), .inl (Γ.2.1 0, 5, .inl ((σ (11 * i + 4))))) := by
  match i, hi with
  | 0, _ => rfl
  | 1, _ => rfl
  | 2, _ => rfl
theorem sAC_House_kind (Γ : Geo) (σ : Sg) (i : Nat) (hi : i < 3) (F : Nat → Int32) : (XC Γ σ).set (2 + 8 * i) ((Γ.2.2.1 (2 + 8 * i)), .inl (Γ.2.1 0, 5, .inl F)) = XC Γ (upA σ (11 * i + 4) F) := by
  match i, hi with
  | 0, _ => rfl
  | 1, _ => rfl
  | 2, _ => rfl
theorem sC_House_kind (Γ : Geo) (σ : Sg) (i : Nat) (hi : i < 3) (j : Nat) (v : Int32) : (XC Γ σ).set (2 + 8 * i) ((Γ.2.2.1 (2 + 8 * i)), .inl (Γ.2.1 0, 5, .inl (upd (σ (11 * i + 4)) j v))) = XC Γ (up σ (11 * i + 4) j v) := sAC_House_kind Γ σ i hi _
theorem gC_House_number (Γ : Geo) (σ : Sg) (i : Nat) (hi : i < 3) : (XC Γ σ)[3 + 8 * i]? = some ((Γ.2.2.1 (3 + 8 * i)), .inl (Γ.2.1 0, 5, .inl ((σ (11 * i + 5))))) := by
  match i, hi with
  | 0, _ => rfl
  | 1, _ => rfl
  | 2, _ => rfl
theorem sAC_House_number (Γ : Geo) (σ : Sg) (i : Nat) (hi : i < 3) (F : Nat → Int32) : (XC Γ σ).set (3 + 8 * i) ((Γ.2.2.1 (3 + 8 * i)), .inl (Γ.2.1 0, 5, .inl F)) = XC Γ (upA σ (11 * i + 5) F) := by
  match i, hi with
  | 0, _ => rfl
  | 1, _ => rfl
  | 2, _ => rfl
theorem sC_House_number (Γ : Geo) (σ : Sg) (i : Nat) (hi : i < 3) (j : Nat) (v : Int32) : (XC Γ σ).set (3 + 8 * i) ((Γ.2.2.1 (3 + 8 * i)), .inl (Γ.2.1 0, 5, .inl (upd (σ (11 * i + 5)) j v))) = XC Γ (up σ (11 * i + 5) j v) := sAC_House_number Γ σ i hi _
theorem gC_House_trouble (Γ : Geo) (σ : Sg) (i : Nat) (hi : i < 3) : (XC Γ σ)[4 + 8 * i]? = some ((Γ.2.2.1 (4 + 8 * i)), .inl (Γ.2.1 0, 5, .inl ((σ (11 * i + 6))))) := by
  match i, hi with
  | 0, _ => rfl
  | 1, _ => rfl
  | 2, _ => rfl
theorem sAC_House_trouble (Γ : Geo) (σ : Sg) (i : Nat) (hi : i < 3) (F : Nat → Int32) : (XC Γ σ).set (4 + 8 * i) ((Γ.2.2.1 (4 + 8 * i)), .inl (Γ.2.1 0, 5, .inl F)) = XC Γ (upA σ (11 * i + 6) F) := by
  match i, hi with
  | 0, _ => rfl
  | 1, _ => rfl
  | 2, _ => rfl
theorem sC_House_trouble (Γ : Geo) (σ : Sg) (i : Nat) (hi : i < 3) (j : Nat) (v : Int32) : (XC Γ σ).set (4 + 8 * i) ((Γ.2.2.1 (4 + 8 * i)), .inl (Γ.2.1 0, 5, .inl (upd (σ (11 * i + 6)) j v))) = XC Γ (up σ (11 * i + 6) j v) := sAC_House_trouble Γ σ i hi _
theorem gC_House_news (Γ : Geo) (σ : Sg) (i : Nat) (hi : i < 3) : (XC Γ σ)[5 + 8 * i]? = some ((Γ.2.2.1 (5 + 8 * i)), .inl (Γ.2.1 0, 5, .inl ((σ (11 * i + 7))))) := by
  match i, hi with
  | 0, _ => rfl
  | 1, _ => rfl
  | 2, _ => rfl
theorem sAC_House_news (Γ : Geo) (σ : Sg) (i : Nat) (hi : i < 3) (F : Nat → Int32) : (XC Γ σ).set (5 + 8 * i) ((Γ.2.2.1 (5 + 8 * i)), .inl (Γ.2.1 0, 5, .inl F)) = XC Γ (upA σ (11 * i + 7) F) := by
  match i, hi with
  | 0, _ => rfl
  | 1, _ => rfl
  | 2, _ => rfl
theorem sC_House_news (Γ : Geo) (σ : Sg) (i : Nat) (hi : i < 3) (j : Nat) (v : Int32) : (XC Γ σ).set (5 + 8 * i) ((Γ.2.2.1 (5 + 8 * i)), .inl (Γ.2.1 0, 5, .inl (upd (σ (11 * i + 7)) j v))) = XC Γ (up σ (11 * i + 7) j v) := sAC_House_news Γ σ i hi _
theorem gC_House_want (Γ : Geo) (σ : Sg) (i : Nat) (hi : i < 3) : (XC Γ σ)[6 + 8 * i]? = some ((Γ.2.2.1 (6 + 8 * i)), .inl (Γ.2.1 0, 6, .inl ((σ (11 * i + 8))))) := by
  match i, hi with
  | 0, _ => rfl
  | 1, _ => rfl
  | 2, _ => rfl
theorem sAC_House_want (Γ : Geo) (σ : Sg) (i : Nat) (hi : i < 3) (F : Nat → Int32) : (XC Γ σ).set (6 + 8 * i) ((Γ.2.2.1 (6 + 8 * i)), .inl (Γ.2.1 0, 6, .inl F)) = XC Γ (upA σ (11 * i + 8) F) := by
  match i, hi with
  | 0, _ => rfl
  | 1, _ => rfl
  | 2, _ => rfl
theorem sC_House_want (Γ : Geo) (σ : Sg) (i : Nat) (hi : i < 3) (j : Nat) (v : Int32) : (XC Γ σ).set (6 + 8 * i) ((Γ.2.2.1 (6 + 8 * i)), .inl (Γ.2.1 0, 6, .inl (upd (σ (11 * i + 8)) j v))) = XC Γ (up σ (11 * i + 8) j v) := sAC_House_want Γ σ i hi _
theorem gC_House_taste (Γ : Geo) (σ : Sg) (i : Nat) (hi : i < 3) : (XC Γ σ)[7 + 8 * i]? = some ((Γ.2.2.1 (7 + 8 * i)), .inl (Γ.2.1 0, 6, .inl ((σ (11 * i + 9))))) := by
  match i, hi with
  | 0, _ => rfl
  | 1, _ => rfl
  | 2, _ => rfl
theorem sAC_House_taste (Γ : Geo) (σ : Sg) (i : Nat) (hi : i < 3) (F : Nat → Int32) : (XC Γ σ).set (7 + 8 * i) ((Γ.2.2.1 (7 + 8 * i)), .inl (Γ.2.1 0, 6, .inl F)) = XC Γ (upA σ (11 * i + 9) F) := by
  match i, hi with
  | 0, _ => rfl
  | 1, _ => rfl
  | 2, _ => rfl
theorem sC_House_taste (Γ : Geo) (σ : Sg) (i : Nat) (hi : i < 3) (j : Nat) (v : Int32) : (XC Γ σ).set (7 + 8 * i) ((Γ.2.2.1 (7 + 8 * i)), .inl (Γ.2.1 0, 6, .inl (upd (σ (11 * i + 9)) j v))) = XC Γ (up σ (11 * i + 9) j v) := sAC_House_taste Γ σ i hi _
theorem gC_House_hold (Γ : Geo) (σ : Sg) (i : Nat) (hi : i < 3) : (XC Γ σ)[8 + 8 * i]? = some ((Γ.2.2.1 (8 + 8 * i)), .inl (Γ.2.1 0, 6, .inl ((σ (11 * i + 10))))) := by
  match i, hi with
  | 0, _ => rfl
  | 1, _ => rfl
  | 2, _ => rfl
theorem sAC_House_hold (Γ : Geo) (σ : Sg) (i : Nat) (hi : i < 3) (F : Nat → Int32) : (XC Γ σ).set (8 + 8 * i) ((Γ.2.2.1 (8 + 8 * i)), .inl (Γ.2.1 0, 6, .inl F)) = XC Γ (upA σ (11 * i + 10) F) := by
  match i, hi with
  | 0, _ => rfl
  | 1, _ => rfl
  | 2, _ => rfl
theorem sC_House_hold (Γ : Geo) (σ : Sg) (i : Nat) (hi : i < 3) (j : Nat) (v : Int32) : (XC Γ σ).set (8 + 8 * i) ((Γ.2.2.1 (8 + 8 * i)), .inl (Γ.2.1 0, 6, .inl (upd (σ (11 * i + 10)) j v))) = XC Γ (up σ (11 * i + 10) j v) := sAC_House_hold Γ σ i hi _
theorem gC_Reader_tape (Γ : Geo) (σ : Sg) : (XC Γ σ)[26]? = some ((Γ.2.2.1 (26)), .inl (Γ.2.1 0, 160, .inl ((σ (34))))) := rfl
theorem sAC_Reader_tape (Γ : Geo) (σ : Sg) (F : Nat → Int32) : (XC Γ σ).set (26) ((Γ.2.2.1 (26)), .inl (Γ.2.1 0, 160, .inl F)) = XC Γ (upA σ (34) F) := rfl
theorem sC_Reader_tape (Γ : Geo) (σ : Sg) (j : Nat) (v : Int32) : (XC Γ σ).set (26) ((Γ.2.2.1 (26)), .inl (Γ.2.1 0, 160, .inl (upd (σ (34)) j v))) = XC Γ (up σ (34) j v) := sAC_Reader_tape Γ σ _
theorem gC_Law_stack (Γ : Geo) (σ : Sg) : (XC Γ σ)[29]? = some ((Γ.2.2.1 (29)), .inl (Γ.2.1 0, 32, .inl ((σ (42))))) := rfl
theorem sAC_Law_stack (Γ : Geo) (σ : Sg) (F : Nat → Int32) : (XC Γ σ).set (29) ((Γ.2.2.1 (29)), .inl (Γ.2.1 0, 32, .inl F)) = XC Γ (upA σ (42) F) := rfl
theorem sC_Law_stack (Γ : Geo) (σ : Sg) (j : Nat) (v : Int32) : (XC Γ σ).set (29) ((Γ.2.2.1 (29)), .inl (Γ.2.1 0, 32, .inl (upd (σ (42)) j v))) = XC Γ (up σ (42) j v) := sAC_Law_stack Γ σ _
theorem gC_Text_steps (Γ : Geo) (σ : Sg) (i : Nat) (hi : i < 7) : (XC Γ σ)[31 + 3 * i]? = some ((Γ.2.2.1 (31 + 3 * i)), .inl (Γ.2.1 0, 160, .inl ((σ (44 + 3 * i))))) := by
  match i, hi with
  | 0, _ => rfl
  | 1, _ => rfl
  | 2, _ => rfl
  | 3, _ => rfl
  | 4, _ => rfl
  | 5, _ => rfl
  | 6, _ => rfl
theorem sAC_Text_steps (Γ : Geo) (σ : Sg) (i : Nat) (hi : i < 7) (F : Nat → Int32) : (XC Γ σ).set (31 + 3 * i) ((Γ.2.2.1 (31 + 3 * i)), .inl (Γ.2.1 0, 160, .inl F)) = XC Γ (upA σ (44 + 3 * i) F) := by
  match i, hi with
  | 0, _ => rfl
  | 1, _ => rfl
  | 2, _ => rfl
  | 3, _ => rfl
  | 4, _ => rfl
  | 5, _ => rfl
  | 6, _ => rfl
theorem sC_Text_steps (Γ : Geo) (σ : Sg) (i : Nat) (hi : i < 7) (j : Nat) (v : Int32) : (XC Γ σ).set (31 + 3 * i) ((Γ.2.2.1 (31 + 3 * i)), .inl (Γ.2.1 0, 160, .inl (upd (σ (44 + 3 * i)) j v))) = XC Γ (up σ (44 + 3 * i) j v) := sAC_Text_steps Γ σ i hi _
theorem gC_Text_ends (Γ : Geo) (σ : Sg) (i : Nat) (hi : i < 7) : (XC Γ σ)[32 + 3 * i]? = some ((Γ.2.2.1 (32 + 3 * i)), .inl (Γ.2.1 0, 3, .inl ((σ (45 + 3 * i))))) := by
  match i, hi with
  | 0, _ => rfl
  | 1, _ => rfl
  | 2, _ => rfl
  | 3, _ => rfl
  | 4, _ => rfl
  | 5, _ => rfl
  | 6, _ => rfl
theorem sAC_Text_ends (Γ : Geo) (σ : Sg) (i : Nat) (hi : i < 7) (F : Nat → Int32) : (XC Γ σ).set (32 + 3 * i) ((Γ.2.2.1 (32 + 3 * i)), .inl (Γ.2.1 0, 3, .inl F)) = XC Γ (upA σ (45 + 3 * i) F) := by
  match i, hi with
  | 0, _ => rfl
  | 1, _ => rfl
  | 2, _ => rfl
  | 3, _ => rfl
  | 4, _ => rfl
  | 5, _ => rfl
  | 6, _ => rfl
theorem sC_Text_ends (Γ : Geo) (σ : Sg) (i : Nat) (hi : i < 7) (j : Nat) (v : Int32) : (XC Γ σ).set (32 + 3 * i) ((Γ.2.2.1 (32 + 3 * i)), .inl (Γ.2.1 0, 3, .inl (upd (σ (45 + 3 * i)) j v))) = XC Γ (up σ (45 + 3 * i) j v) := sAC_Text_ends Γ σ i hi _
theorem gC_into (Γ : Geo) (σ : Sg) (i : Nat) (hi : i < 5) : (XC Γ σ)[53 + i]? = some ((Γ.2.2.1 (53 + i)), .inl (Γ.2.1 0, 6, .inl ((σ (64 + i))))) := by
  match i, hi with
  | 0, _ => rfl
  | 1, _ => rfl
  | 2, _ => rfl
  | 3, _ => rfl
  | 4, _ => rfl
theorem sAC_into (Γ : Geo) (σ : Sg) (i : Nat) (hi : i < 5) (F : Nat → Int32) : (XC Γ σ).set (53 + i) ((Γ.2.2.1 (53 + i)), .inl (Γ.2.1 0, 6, .inl F)) = XC Γ (upA σ (64 + i) F) := by
  match i, hi with
  | 0, _ => rfl
  | 1, _ => rfl
  | 2, _ => rfl
  | 3, _ => rfl
  | 4, _ => rfl
theorem sC_into (Γ : Geo) (σ : Sg) (i : Nat) (hi : i < 5) (j : Nat) (v : Int32) : (XC Γ σ).set (53 + i) ((Γ.2.2.1 (53 + i)), .inl (Γ.2.1 0, 6, .inl (upd (σ (64 + i)) j v))) = XC Γ (up σ (64 + i) j v) := sAC_into Γ σ i hi _
theorem gC_Demand_yields (Γ : Geo) (σ : Sg) : (XC Γ σ)[59]? = some ((Γ.2.2.1 (59)), .inl (Γ.2.1 0, 5, .inl ((σ (70))))) := rfl
theorem sAC_Demand_yields (Γ : Geo) (σ : Sg) (F : Nat → Int32) : (XC Γ σ).set (59) ((Γ.2.2.1 (59)), .inl (Γ.2.1 0, 5, .inl F)) = XC Γ (upA σ (70) F) := rfl
theorem sC_Demand_yields (Γ : Geo) (σ : Sg) (j : Nat) (v : Int32) : (XC Γ σ).set (59) ((Γ.2.2.1 (59)), .inl (Γ.2.1 0, 5, .inl (upd (σ (70)) j v))) = XC Γ (up σ (70) j v) := sAC_Demand_yields Γ σ _
theorem gC_Demand_suits (Γ : Geo) (σ : Sg) : (XC Γ σ)[60]? = some ((Γ.2.2.1 (60)), .inl (Γ.2.1 0, 5, .inl ((σ (71))))) := rfl
theorem sAC_Demand_suits (Γ : Geo) (σ : Sg) (F : Nat → Int32) : (XC Γ σ).set (60) ((Γ.2.2.1 (60)), .inl (Γ.2.1 0, 5, .inl F)) = XC Γ (upA σ (71) F) := rfl
theorem sC_Demand_suits (Γ : Geo) (σ : Sg) (j : Nat) (v : Int32) : (XC Γ σ).set (60) ((Γ.2.2.1 (60)), .inl (Γ.2.1 0, 5, .inl (upd (σ (71)) j v))) = XC Γ (up σ (71) j v) := sAC_Demand_suits Γ σ _
theorem gC_Demand_wants (Γ : Geo) (σ : Sg) : (XC Γ σ)[61]? = some ((Γ.2.2.1 (61)), .inl (Γ.2.1 0, 6, .inl ((σ (72))))) := rfl
theorem sAC_Demand_wants (Γ : Geo) (σ : Sg) (F : Nat → Int32) : (XC Γ σ).set (61) ((Γ.2.2.1 (61)), .inl (Γ.2.1 0, 6, .inl F)) = XC Γ (upA σ (72) F) := rfl
theorem sC_Demand_wants (Γ : Geo) (σ : Sg) (j : Nat) (v : Int32) : (XC Γ σ).set (61) ((Γ.2.2.1 (61)), .inl (Γ.2.1 0, 6, .inl (upd (σ (72)) j v))) = XC Γ (up σ (72) j v) := sAC_Demand_wants Γ σ _
theorem gC_Sheet_items (Γ : Geo) (σ : Sg) (i : Nat) (hi : i < 4) : (XC Γ σ)[64 + 2 * i]? = some ((Γ.2.2.1 (64 + 2 * i)), .inl (Γ.2.1 0, 40, .inl ((σ (75 + 3 * i))))) := by
  match i, hi with
  | 0, _ => rfl
  | 1, _ => rfl
  | 2, _ => rfl
  | 3, _ => rfl
theorem sAC_Sheet_items (Γ : Geo) (σ : Sg) (i : Nat) (hi : i < 4) (F : Nat → Int32) : (XC Γ σ).set (64 + 2 * i) ((Γ.2.2.1 (64 + 2 * i)), .inl (Γ.2.1 0, 40, .inl F)) = XC Γ (upA σ (75 + 3 * i) F) := by
  match i, hi with
  | 0, _ => rfl
  | 1, _ => rfl
  | 2, _ => rfl
  | 3, _ => rfl
theorem sC_Sheet_items (Γ : Geo) (σ : Sg) (i : Nat) (hi : i < 4) (j : Nat) (v : Int32) : (XC Γ σ).set (64 + 2 * i) ((Γ.2.2.1 (64 + 2 * i)), .inl (Γ.2.1 0, 40, .inl (upd (σ (75 + 3 * i)) j v))) = XC Γ (up σ (75 + 3 * i) j v) := sAC_Sheet_items Γ σ i hi _
theorem gC_texts (Γ : Geo) (σ : Sg) : (XC Γ σ)[28]? = some ((Γ.2.2.1 (28)), .inl (Γ.2.1 4, 6, .inr (.inr (.inr (.inr (fun j => some (Γ.2.2.1 (30 + 3 * j)))))))) := rfl
theorem gC_intos (Γ : Geo) (σ : Sg) : (XC Γ σ)[52]? = some ((Γ.2.2.1 (52)), .inl (Γ.2.1 5, 5, .inr (.inr (.inr (.inr (fun j => some (Γ.2.2.1 (53 + j)))))))) := rfl
theorem gC_sheets (Γ : Geo) (σ : Sg) : (XC Γ σ)[62]? = some ((Γ.2.2.1 (62)), .inl (Γ.2.1 3, 4, .inr (.inr (.inr (.inr (fun j => some (Γ.2.2.1 (63 + 2 * j)))))))) := rfl
