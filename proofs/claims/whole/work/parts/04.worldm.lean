/-! the reference's world: 18 cells; ints and longs by the field's number -/
abbrev Sm : Type := (Nat → Nat → Int32) × (Nat → Nat → Int64)
def upm (σ : Sm) (id j : Nat) (v : Int32) : Sm := (up σ.1 id j v, σ.2)
def upj (σ : Sm) (id j : Nat) (v : Int64) : Sm := (σ.1, fun a => if a = id then vp_updL (σ.2 a) j v else σ.2 a)
abbrev fsModel (Γ : Geo) (σ : Sm) : List Value := [.int (σ.1 (0) 0), .ref (Γ.2.2.1 (1)), .ref (Γ.2.2.1 (2)), .int (σ.1 (3) 0), .int (σ.1 (4) 0), .ref (Γ.2.2.1 (3)), .int (σ.1 (6) 0), .int (σ.1 (7) 0), .int (σ.1 (8) 0), .ref (Γ.2.2.1 (4)), .ref (Γ.2.2.1 (5)), .ref (Γ.2.2.1 (6)), .int (σ.1 (12) 0), .int (σ.1 (13) 0), .int (σ.1 (14) 0), .int (σ.1 (15) 0), .int (σ.1 (16) 0), .int (σ.1 (17) 0), .int (σ.1 (18) 0), .int (σ.1 (19) 0), .int (σ.1 (20) 0), .int (σ.1 (21) 0), .int (σ.1 (22) 0), .int (σ.1 (23) 0), .long (σ.2 (24) 0), .int (σ.1 (25) 0), .int (σ.1 (26) 0), .int (σ.1 (27) 0), .ref (Γ.2.2.1 (7)), .ref (Γ.2.2.1 (8)), .ref (Γ.2.2.1 (9)), .ref (Γ.2.2.1 (10)), .ref (Γ.2.2.1 (11)), .int (σ.1 (33) 0), .ref (Γ.2.2.1 (12)), .ref (Γ.2.2.1 (13)), .int (σ.1 (36) 0), .int (σ.1 (37) 0), .int (σ.1 (38) 0), .int (σ.1 (39) 0), .ref (Γ.2.2.1 (14)), .ref (Γ.2.2.1 (15)), .ref (Γ.2.2.1 (16)), .ref (Γ.2.2.1 (17))]
def XM (Γ : Geo) (σ : Sm) : va_W := [((Γ.2.2.1 (0)), .inr (8, fsModel Γ σ)),
  ((Γ.2.2.1 (1)), .inl (Γ.2.1 0, 960, .inl ((σ.1 (1))))),
  ((Γ.2.2.1 (2)), .inl (Γ.2.1 0, 6, .inl ((σ.1 (2))))),
  ((Γ.2.2.1 (3)), .inl (Γ.2.1 0, 160, .inl ((σ.1 (5))))),
  ((Γ.2.2.1 (4)), .inl (Γ.2.1 0, 5, .inl ((σ.1 (9))))),
  ((Γ.2.2.1 (5)), .inl (Γ.2.1 0, 15, .inl ((σ.1 (10))))),
  ((Γ.2.2.1 (6)), .inl (Γ.2.1 0, 18, .inl ((σ.1 (11))))),
  ((Γ.2.2.1 (7)), .inl (Γ.2.1 1, 1024, .inr (.inl (σ.2 (28))))),
  ((Γ.2.2.1 (8)), .inl (Γ.2.1 0, 1024, .inl ((σ.1 (29))))),
  ((Γ.2.2.1 (9)), .inl (Γ.2.1 0, 30, .inl ((σ.1 (30))))),
  ((Γ.2.2.1 (10)), .inl (Γ.2.1 0, 5, .inl ((σ.1 (31))))),
  ((Γ.2.2.1 (11)), .inl (Γ.2.1 0, 34, .inl ((σ.1 (32))))),
  ((Γ.2.2.1 (12)), .inl (Γ.2.1 0, 15, .inl ((σ.1 (34))))),
  ((Γ.2.2.1 (13)), .inl (Γ.2.1 0, 18, .inl ((σ.1 (35))))),
  ((Γ.2.2.1 (14)), .inl (Γ.2.1 2, 4, .inl ((σ.1 (40))))),
  ((Γ.2.2.1 (15)), .inl (Γ.2.1 0, 4, .inl ((σ.1 (41))))),
  ((Γ.2.2.1 (16)), .inl (Γ.2.1 0, 4, .inl ((σ.1 (42))))),
  ((Γ.2.2.1 (17)), .inl (Γ.2.1 0, 160, .inl ((σ.1 (43)))))]
def alM (Γ : Geo) : List Nat := (List.range 18).map Γ.2.2.1
theorem halM (Γ : Geo) (σ : Sm) : (XM Γ σ).map Prod.fst = alM Γ := rfl
/-- what a geometry must be -/
def okM (Γ : Geo) : Prop := wNd (alM Γ)
theorem gM_Model (Γ : Geo) (σ : Sm) : (XM Γ σ)[0]? = some ((Γ.2.2.1 (0)), .inr (8, fsModel Γ σ)) := rfl
theorem sM_Model_thrown (Γ : Geo) (σ : Sm) (v : Int32) : (XM Γ σ).set (0) ((Γ.2.2.1 (0)), .inr (8, (fsModel Γ σ).set 0 (.int v))) = XM Γ (upm σ (0) 0 v) := rfl
theorem sM_Model_textCount (Γ : Geo) (σ : Sm) (v : Int32) : (XM Γ σ).set (0) ((Γ.2.2.1 (0)), .inr (8, (fsModel Γ σ).set 3 (.int v))) = XM Γ (upm σ (3) 0 v) := rfl
theorem sM_Model_rule (Γ : Geo) (σ : Sm) (v : Int32) : (XM Γ σ).set (0) ((Γ.2.2.1 (0)), .inr (8, (fsModel Γ σ).set 4 (.int v))) = XM Γ (upm σ (4) 0 v) := rfl
theorem sM_Model_taped (Γ : Geo) (σ : Sm) (v : Int32) : (XM Γ σ).set (0) ((Γ.2.2.1 (0)), .inr (8, (fsModel Γ σ).set 6 (.int v))) = XM Γ (upm σ (6) 0 v) := rfl
theorem sM_Model_nightNow (Γ : Geo) (σ : Sm) (v : Int32) : (XM Γ σ).set (0) ((Γ.2.2.1 (0)), .inr (8, (fsModel Γ σ).set 7 (.int v))) = XM Γ (upm σ (7) 0 v) := rfl
theorem sM_Model_hourNow (Γ : Geo) (σ : Sm) (v : Int32) : (XM Γ σ).set (0) ((Γ.2.2.1 (0)), .inr (8, (fsModel Γ σ).set 8 (.int v))) = XM Γ (upm σ (8) 0 v) := rfl
theorem sM_Model_many (Γ : Geo) (σ : Sm) (v : Int32) : (XM Γ σ).set (0) ((Γ.2.2.1 (0)), .inr (8, (fsModel Γ σ).set 12 (.int v))) = XM Γ (upm σ (12) 0 v) := rfl
theorem sM_Model_ofTrouble (Γ : Geo) (σ : Sm) (v : Int32) : (XM Γ σ).set (0) ((Γ.2.2.1 (0)), .inr (8, (fsModel Γ σ).set 13 (.int v))) = XM Γ (upm σ (13) 0 v) := rfl
theorem sM_Model_ofNumber (Γ : Geo) (σ : Sm) (v : Int32) : (XM Γ σ).set (0) ((Γ.2.2.1 (0)), .inr (8, (fsModel Γ σ).set 14 (.int v))) = XM Γ (upm σ (14) 0 v) := rfl
theorem sM_Model_ofNight (Γ : Geo) (σ : Sm) (v : Int32) : (XM Γ σ).set (0) ((Γ.2.2.1 (0)), .inr (8, (fsModel Γ σ).set 15 (.int v))) = XM Γ (upm σ (15) 0 v) := rfl
theorem sM_Model_ofNews (Γ : Geo) (σ : Sm) (v : Int32) : (XM Γ σ).set (0) ((Γ.2.2.1 (0)), .inr (8, (fsModel Γ σ).set 16 (.int v))) = XM Γ (upm σ (16) 0 v) := rfl
theorem sM_Model_ofTaste (Γ : Geo) (σ : Sm) (v : Int32) : (XM Γ σ).set (0) ((Γ.2.2.1 (0)), .inr (8, (fsModel Γ σ).set 17 (.int v))) = XM Γ (upm σ (17) 0 v) := rfl
theorem sM_Model_ofHour (Γ : Geo) (σ : Sm) (v : Int32) : (XM Γ σ).set (0) ((Γ.2.2.1 (0)), .inr (8, (fsModel Γ σ).set 18 (.int v))) = XM Γ (upm σ (18) 0 v) := rfl
theorem sM_Model_from (Γ : Geo) (σ : Sm) (v : Int32) : (XM Γ σ).set (0) ((Γ.2.2.1 (0)), .inr (8, (fsModel Γ σ).set 19 (.int v))) = XM Γ (upm σ (19) 0 v) := rfl
theorem sM_Model_size (Γ : Geo) (σ : Sm) (v : Int32) : (XM Γ σ).set (0) ((Γ.2.2.1 (0)), .inr (8, (fsModel Γ σ).set 20 (.int v))) = XM Γ (upm σ (20) 0 v) := rfl
theorem sM_Model_here (Γ : Geo) (σ : Sm) (v : Int32) : (XM Γ σ).set (0) ((Γ.2.2.1 (0)), .inr (8, (fsModel Γ σ).set 21 (.int v))) = XM Γ (upm σ (21) 0 v) := rfl
theorem sM_Model_token (Γ : Geo) (σ : Sm) (v : Int32) : (XM Γ σ).set (0) ((Γ.2.2.1 (0)), .inr (8, (fsModel Γ σ).set 22 (.int v))) = XM Γ (upm σ (22) 0 v) := rfl
theorem sM_Model_tokenAt (Γ : Geo) (σ : Sm) (v : Int32) : (XM Γ σ).set (0) ((Γ.2.2.1 (0)), .inr (8, (fsModel Γ σ).set 23 (.int v))) = XM Γ (upm σ (23) 0 v) := rfl
theorem sM_Model_tokenWorth (Γ : Geo) (σ : Sm) (v : Int64) : (XM Γ σ).set (0) ((Γ.2.2.1 (0)), .inr (8, (fsModel Γ σ).set 24 (.long v))) = XM Γ (upj σ (24) 0 v) := rfl
theorem sM_Model_open (Γ : Geo) (σ : Sm) (v : Int32) : (XM Γ σ).set (0) ((Γ.2.2.1 (0)), .inr (8, (fsModel Γ σ).set 25 (.int v))) = XM Γ (upm σ (25) 0 v) := rfl
theorem sM_Model_bad (Γ : Geo) (σ : Sm) (v : Int32) : (XM Γ σ).set (0) ((Γ.2.2.1 (0)), .inr (8, (fsModel Γ σ).set 26 (.int v))) = XM Γ (upm σ (26) 0 v) := rfl
theorem sM_Model_fault (Γ : Geo) (σ : Sm) (v : Int32) : (XM Γ σ).set (0) ((Γ.2.2.1 (0)), .inr (8, (fsModel Γ σ).set 27 (.int v))) = XM Γ (upm σ (27) 0 v) := rfl
theorem sM_Model_cutSet (Γ : Geo) (σ : Sm) (v : Int32) : (XM Γ σ).set (0) ((Γ.2.2.1 (0)), .inr (8, (fsModel Γ σ).set 33 (.int v))) = XM Γ (upm σ (33) 0 v) := rfl
theorem sM_Model_manyKept (Γ : Geo) (σ : Sm) (v : Int32) : (XM Γ σ).set (0) ((Γ.2.2.1 (0)), .inr (8, (fsModel Γ σ).set 36 (.int v))) = XM Γ (upm σ (36) 0 v) := rfl
theorem sM_Model_nightKept (Γ : Geo) (σ : Sm) (v : Int32) : (XM Γ σ).set (0) ((Γ.2.2.1 (0)), .inr (8, (fsModel Γ σ).set 37 (.int v))) = XM Γ (upm σ (37) 0 v) := rfl
theorem sM_Model_hourKept (Γ : Geo) (σ : Sm) (v : Int32) : (XM Γ σ).set (0) ((Γ.2.2.1 (0)), .inr (8, (fsModel Γ σ).set 38 (.int v))) = XM Γ (upm σ (38) 0 v) := rfl
theorem sM_Model_ruleKept (Γ : Geo) (σ : Sm) (v : Int32) : (XM Γ σ).set (0) ((Γ.2.2.1 (0)), .inr (8, (fsModel Γ σ).set 39 (.int v))) = XM Γ (upm σ (39) 0 v) := rfl
theorem gM_M_texts (Γ : Geo) (σ : Sm) : (XM Γ σ)[1]? = some ((Γ.2.2.1 (1)), .inl (Γ.2.1 0, 960, .inl ((σ.1 (1))))) := rfl
theorem sM_M_texts (Γ : Geo) (σ : Sm) (j : Nat) (v : Int32) : (XM Γ σ).set (1) ((Γ.2.2.1 (1)), .inl (Γ.2.1 0, 960, .inl (upd (σ.1 (1)) j v))) = XM Γ (upm σ (1) j v) := rfl
theorem gM_M_textSize (Γ : Geo) (σ : Sm) : (XM Γ σ)[2]? = some ((Γ.2.2.1 (2)), .inl (Γ.2.1 0, 6, .inl ((σ.1 (2))))) := rfl
theorem sM_M_textSize (Γ : Geo) (σ : Sm) (j : Nat) (v : Int32) : (XM Γ σ).set (2) ((Γ.2.2.1 (2)), .inl (Γ.2.1 0, 6, .inl (upd (σ.1 (2)) j v))) = XM Γ (upm σ (2) j v) := rfl
theorem gM_M_tape (Γ : Geo) (σ : Sm) : (XM Γ σ)[3]? = some ((Γ.2.2.1 (3)), .inl (Γ.2.1 0, 160, .inl ((σ.1 (5))))) := rfl
theorem sM_M_tape (Γ : Geo) (σ : Sm) (j : Nat) (v : Int32) : (XM Γ σ).set (3) ((Γ.2.2.1 (3)), .inl (Γ.2.1 0, 160, .inl (upd (σ.1 (5)) j v))) = XM Γ (upm σ (5) j v) := rfl
theorem gM_M_kinds (Γ : Geo) (σ : Sm) : (XM Γ σ)[4]? = some ((Γ.2.2.1 (4)), .inl (Γ.2.1 0, 5, .inl ((σ.1 (9))))) := rfl
theorem sM_M_kinds (Γ : Geo) (σ : Sm) (j : Nat) (v : Int32) : (XM Γ σ).set (4) ((Γ.2.2.1 (4)), .inl (Γ.2.1 0, 5, .inl (upd (σ.1 (9)) j v))) = XM Γ (upm σ (9) j v) := rfl
theorem gM_M_rows (Γ : Geo) (σ : Sm) : (XM Γ σ)[5]? = some ((Γ.2.2.1 (5)), .inl (Γ.2.1 0, 15, .inl ((σ.1 (10))))) := rfl
theorem sM_M_rows (Γ : Geo) (σ : Sm) (j : Nat) (v : Int32) : (XM Γ σ).set (5) ((Γ.2.2.1 (5)), .inl (Γ.2.1 0, 15, .inl (upd (σ.1 (10)) j v))) = XM Γ (upm σ (10) j v) := rfl
theorem gM_M_cups (Γ : Geo) (σ : Sm) : (XM Γ σ)[6]? = some ((Γ.2.2.1 (6)), .inl (Γ.2.1 0, 18, .inl ((σ.1 (11))))) := rfl
theorem sM_M_cups (Γ : Geo) (σ : Sm) (j : Nat) (v : Int32) : (XM Γ σ).set (6) ((Γ.2.2.1 (6)), .inl (Γ.2.1 0, 18, .inl (upd (σ.1 (11)) j v))) = XM Γ (upm σ (11) j v) := rfl
theorem gM_M_keptOf (Γ : Geo) (σ : Sm) : (XM Γ σ)[7]? = some ((Γ.2.2.1 (7)), .inl (Γ.2.1 1, 1024, .inr (.inl (σ.2 (28))))) := rfl
theorem sM_M_keptOf (Γ : Geo) (σ : Sm) (j : Nat) (v : Int64) : (XM Γ σ).set (7) ((Γ.2.2.1 (7)), .inl (Γ.2.1 1, 1024, .inr (.inl (vp_updL (σ.2 (28)) j v)))) = XM Γ (upj σ (28) j v) := rfl
theorem gM_M_keptWas (Γ : Geo) (σ : Sm) : (XM Γ σ)[8]? = some ((Γ.2.2.1 (8)), .inl (Γ.2.1 0, 1024, .inl ((σ.1 (29))))) := rfl
theorem sM_M_keptWas (Γ : Geo) (σ : Sm) (j : Nat) (v : Int32) : (XM Γ σ).set (8) ((Γ.2.2.1 (8)), .inl (Γ.2.1 0, 1024, .inl (upd (σ.1 (29)) j v))) = XM Γ (upm σ (29) j v) := rfl
theorem gM_M_drops (Γ : Geo) (σ : Sm) : (XM Γ σ)[9]? = some ((Γ.2.2.1 (9)), .inl (Γ.2.1 0, 30, .inl ((σ.1 (30))))) := rfl
theorem sM_M_drops (Γ : Geo) (σ : Sm) (j : Nat) (v : Int32) : (XM Γ σ).set (9) ((Γ.2.2.1 (9)), .inl (Γ.2.1 0, 30, .inl (upd (σ.1 (30)) j v))) = XM Γ (upm σ (30) j v) := rfl
theorem gM_M_eases (Γ : Geo) (σ : Sm) : (XM Γ σ)[10]? = some ((Γ.2.2.1 (10)), .inl (Γ.2.1 0, 5, .inl ((σ.1 (31))))) := rfl
theorem sM_M_eases (Γ : Geo) (σ : Sm) (j : Nat) (v : Int32) : (XM Γ σ).set (10) ((Γ.2.2.1 (10)), .inl (Γ.2.1 0, 5, .inl (upd (σ.1 (31)) j v))) = XM Γ (upm σ (31) j v) := rfl
theorem gM_M_was (Γ : Geo) (σ : Sm) : (XM Γ σ)[11]? = some ((Γ.2.2.1 (11)), .inl (Γ.2.1 0, 34, .inl ((σ.1 (32))))) := rfl
theorem sM_M_was (Γ : Geo) (σ : Sm) (j : Nat) (v : Int32) : (XM Γ σ).set (11) ((Γ.2.2.1 (11)), .inl (Γ.2.1 0, 34, .inl (upd (σ.1 (32)) j v))) = XM Γ (upm σ (32) j v) := rfl
theorem gM_M_rowsKept (Γ : Geo) (σ : Sm) : (XM Γ σ)[12]? = some ((Γ.2.2.1 (12)), .inl (Γ.2.1 0, 15, .inl ((σ.1 (34))))) := rfl
theorem sM_M_rowsKept (Γ : Geo) (σ : Sm) (j : Nat) (v : Int32) : (XM Γ σ).set (12) ((Γ.2.2.1 (12)), .inl (Γ.2.1 0, 15, .inl (upd (σ.1 (34)) j v))) = XM Γ (upm σ (34) j v) := rfl
theorem gM_M_cupsKept (Γ : Geo) (σ : Sm) : (XM Γ σ)[13]? = some ((Γ.2.2.1 (13)), .inl (Γ.2.1 0, 18, .inl ((σ.1 (35))))) := rfl
theorem sM_M_cupsKept (Γ : Geo) (σ : Sm) (j : Nat) (v : Int32) : (XM Γ σ).set (13) ((Γ.2.2.1 (13)), .inl (Γ.2.1 0, 18, .inl (upd (σ.1 (35)) j v))) = XM Γ (upm σ (35) j v) := rfl
theorem gM_M_isThere (Γ : Geo) (σ : Sm) : (XM Γ σ)[14]? = some ((Γ.2.2.1 (14)), .inl (Γ.2.1 2, 4, .inl ((σ.1 (40))))) := rfl
theorem sM_M_isThere (Γ : Geo) (σ : Sm) (j : Nat) (v : Int32) : (XM Γ σ).set (14) ((Γ.2.2.1 (14)), .inl (Γ.2.1 2, 4, .inl (upd (σ.1 (40)) j v))) = XM Γ (upm σ (40) j v) := rfl
theorem gM_M_sorts (Γ : Geo) (σ : Sm) : (XM Γ σ)[15]? = some ((Γ.2.2.1 (15)), .inl (Γ.2.1 0, 4, .inl ((σ.1 (41))))) := rfl
theorem sM_M_sorts (Γ : Geo) (σ : Sm) (j : Nat) (v : Int32) : (XM Γ σ).set (15) ((Γ.2.2.1 (15)), .inl (Γ.2.1 0, 4, .inl (upd (σ.1 (41)) j v))) = XM Γ (upm σ (41) j v) := rfl
theorem gM_M_sheetSize (Γ : Geo) (σ : Sm) : (XM Γ σ)[16]? = some ((Γ.2.2.1 (16)), .inl (Γ.2.1 0, 4, .inl ((σ.1 (42))))) := rfl
theorem sM_M_sheetSize (Γ : Geo) (σ : Sm) (j : Nat) (v : Int32) : (XM Γ σ).set (16) ((Γ.2.2.1 (16)), .inl (Γ.2.1 0, 4, .inl (upd (σ.1 (42)) j v))) = XM Γ (upm σ (42) j v) := rfl
theorem gM_M_items (Γ : Geo) (σ : Sm) : (XM Γ σ)[17]? = some ((Γ.2.2.1 (17)), .inl (Γ.2.1 0, 160, .inl ((σ.1 (43))))) := rfl
theorem sM_M_items (Γ : Geo) (σ : Sm) (j : Nat) (v : Int32) : (XM Γ σ).set (17) ((Γ.2.2.1 (17)), .inl (Γ.2.1 0, 160, .inl (upd (σ.1 (43)) j v))) = XM Γ (upm σ (43) j v) := rfl
