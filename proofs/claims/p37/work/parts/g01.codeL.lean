section Ug01codeL
/-! the code of the law (printed by wip/p40/genL1.py) -/
def DL_name : List (Nat × Instr × Nat) := [(0, .aload_n 3, 1), (1, .aload_n 0, 1), (2, .iload_n 1, 1), (3, .iload_n 2, 1), (4, .invokevirtual 7, 3), (7, .i2l, 1), (8, .putfield 13, 3), (11, .goto 11, 3), (14, .astore 4, 2), (16, .iconst 1, 1), (17, .ireturn, 1), (18, .astore 4, 2), (20, .iconst 2, 1), (21, .ireturn, 1), (22, .iconst 0, 1), (23, .ireturn, 1)]
set_option maxRecDepth 100000 in
theorem DL_name_ok : ∀ q ∈ DL_name, decode cL_name q.1 = .ok q.2 := ck_ok (by decide +kernel)
def DL_head : List (Nat × Instr × Nat) := [(0, .aload 6, 2), (2, .aload_n 0, 1), (3, .iload_n 1, 1), (4, .iload_n 2, 1), (5, .iload_n 3, 1), (6, .iload 4, 2), (8, .iload 5, 2), (10, .invokevirtual 23, 3), (13, .i2l, 1), (14, .putfield 13, 3), (17, .goto 11, 3), (20, .astore 7, 2), (22, .iconst 1, 1), (23, .ireturn, 1), (24, .astore 7, 2), (26, .iconst 2, 1), (27, .ireturn, 1), (28, .iconst 0, 1), (29, .ireturn, 1)]
set_option maxRecDepth 100000 in
theorem DL_head_ok : ∀ q ∈ DL_head, decode cL_head q.1 = .ok q.2 := ck_ok (by decide +kernel)
def DL_copy : List (Nat × Instr × Nat) := [(0, .aload_n 3, 1), (1, .aload_n 0, 1), (2, .iload_n 1, 1), (3, .iload_n 2, 1), (4, .invokevirtual 27, 3), (7, .i2l, 1), (8, .putfield 13, 3), (11, .goto 7, 3), (14, .astore 4, 2), (16, .iconst 1, 1), (17, .ireturn, 1), (18, .iconst 0, 1), (19, .ireturn, 1)]
set_option maxRecDepth 100000 in
theorem DL_copy_ok : ∀ q ∈ DL_copy, decode cL_copy q.1 = .ok q.2 := ck_ok (by decide +kernel)
def DL_swap : List (Nat × Instr × Nat) := [(0, .aload_n 3, 1), (1, .aload_n 0, 1), (2, .iload_n 1, 1), (3, .iload_n 2, 1), (4, .invokevirtual 30, 3), (7, .i2l, 1), (8, .putfield 13, 3), (11, .goto 7, 3), (14, .astore 4, 2), (16, .iconst 1, 1), (17, .ireturn, 1), (18, .iconst 0, 1), (19, .ireturn, 1)]
set_option maxRecDepth 100000 in
theorem DL_swap_ok : ∀ q ∈ DL_swap, decode cL_swap q.1 = .ok q.2 := ck_ok (by decide +kernel)
def DL_part : List (Nat × Instr × Nat) := [(0, .aload 4, 2), (2, .aload_n 0, 1), (3, .iload_n 1, 1), (4, .iload_n 2, 1), (5, .iload_n 3, 1), (6, .invokevirtual 33, 3), (9, .i2l, 1), (10, .putfield 13, 3), (13, .goto 7, 3), (16, .astore 5, 2), (18, .iconst 1, 1), (19, .ireturn, 1), (20, .iconst 0, 1), (21, .ireturn, 1)]
set_option maxRecDepth 100000 in
theorem DL_part_ok : ∀ q ∈ DL_part, decode cL_part q.1 = .ok q.2 := ck_ok (by decide +kernel)
def DL_graft : List (Nat × Instr × Nat) := [(0, .aload 4, 2), (2, .aload_n 0, 1), (3, .iload_n 1, 1), (4, .iload_n 2, 1), (5, .iload_n 3, 1), (6, .invokevirtual 37, 3), (9, .i2l, 1), (10, .putfield 13, 3), (13, .goto 7, 3), (16, .astore 5, 2), (18, .iconst 1, 1), (19, .ireturn, 1), (20, .iconst 0, 1), (21, .ireturn, 1)]
set_option maxRecDepth 100000 in
theorem DL_graft_ok : ∀ q ∈ DL_graft, decode cL_graft q.1 = .ok q.2 := ck_ok (by decide +kernel)
def DL_put : List (Nat × Instr × Nat) := [(0, .aload 4, 2), (2, .aload_n 0, 1), (3, .iload_n 1, 1), (4, .iload_n 2, 1), (5, .iload_n 3, 1), (6, .invokevirtual 40, 3), (9, .i2l, 1), (10, .putfield 13, 3), (13, .goto 11, 3), (16, .astore 5, 2), (18, .iconst 1, 1), (19, .ireturn, 1), (20, .astore 5, 2), (22, .iconst 2, 1), (23, .ireturn, 1), (24, .iconst 0, 1), (25, .ireturn, 1)]
set_option maxRecDepth 100000 in
theorem DL_put_ok : ∀ q ∈ DL_put, decode cL_put q.1 = .ok q.2 := ck_ok (by decide +kernel)
def DL_shift : List (Nat × Instr × Nat) := [(0, .aload_n 3, 1), (1, .aload_n 0, 1), (2, .iload_n 1, 1), (3, .iload_n 2, 1), (4, .invokevirtual 43, 3), (7, .i2l, 1), (8, .putfield 13, 3), (11, .goto 11, 3), (14, .astore 4, 2), (16, .iconst 1, 1), (17, .ireturn, 1), (18, .astore 4, 2), (20, .iconst 2, 1), (21, .ireturn, 1), (22, .iconst 0, 1), (23, .ireturn, 1)]
set_option maxRecDepth 100000 in
theorem DL_shift_ok : ∀ q ∈ DL_shift, decode cL_shift q.1 = .ok q.2 := ck_ok (by decide +kernel)
def DL_plain : List (Nat × Instr × Nat) := [(0, .aload_n 2, 1), (1, .aload_n 0, 1), (2, .iload_n 1, 1), (3, .invokevirtual 46, 3), (6, .i2l, 1), (7, .putfield 13, 3), (10, .goto 6, 3), (13, .astore_n 3, 1), (14, .iconst 1, 1), (15, .ireturn, 1), (16, .iconst 0, 1), (17, .ireturn, 1)]
set_option maxRecDepth 100000 in
theorem DL_plain_ok : ∀ q ∈ DL_plain, decode cL_plain q.1 = .ok q.2 := ck_ok (by decide +kernel)
def DL_use : List (Nat × Instr × Nat) := [(0, .aload 4, 2), (2, .aload_n 0, 1), (3, .iload_n 1, 1), (4, .iload_n 2, 1), (5, .iload_n 3, 1), (6, .invokevirtual 50, 3), (9, .i2l, 1), (10, .putfield 13, 3), (13, .goto 7, 3), (16, .astore 5, 2), (18, .iconst 1, 1), (19, .ireturn, 1), (20, .iconst 0, 1), (21, .ireturn, 1)]
set_option maxRecDepth 100000 in
theorem DL_use_ok : ∀ q ∈ DL_use, decode cL_use q.1 = .ok q.2 := ck_ok (by decide +kernel)
def DL_common : List (Nat × Instr × Nat) := [(0, .aload 4, 2), (2, .aload_n 0, 1), (3, .iload_n 1, 1), (4, .iload_n 2, 1), (5, .iload_n 3, 1), (6, .invokevirtual 53, 3), (9, .i2l, 1), (10, .putfield 13, 3), (13, .goto 7, 3), (16, .astore 5, 2), (18, .iconst 1, 1), (19, .ireturn, 1), (20, .iconst 0, 1), (21, .ireturn, 1)]
set_option maxRecDepth 100000 in
theorem DL_common_ok : ∀ q ∈ DL_common, decode cL_common q.1 = .ok q.2 := ck_ok (by decide +kernel)
def DL_forget : List (Nat × Instr × Nat) := [(0, .aload_n 2, 1), (1, .aload_n 0, 1), (2, .iload_n 1, 1), (3, .invokevirtual 56, 3), (6, .i2l, 1), (7, .putfield 13, 3), (10, .goto 6, 3), (13, .astore_n 3, 1), (14, .iconst 1, 1), (15, .ireturn, 1), (16, .iconst 0, 1), (17, .ireturn, 1)]
set_option maxRecDepth 100000 in
theorem DL_forget_ok : ∀ q ∈ DL_forget, decode cL_forget q.1 = .ok q.2 := ck_ok (by decide +kernel)
def DL_tell : List (Nat × Instr × Nat) := [(0, .aload 4, 2), (2, .aload_n 0, 1), (3, .iload_n 1, 1), (4, .iload_n 2, 1), (5, .iload_n 3, 1), (6, .invokevirtual 59, 3), (9, .i2l, 1), (10, .putfield 13, 3), (13, .goto 11, 3), (16, .astore 5, 2), (18, .iconst 1, 1), (19, .ireturn, 1), (20, .astore 5, 2), (22, .iconst 2, 1), (23, .ireturn, 1), (24, .iconst 0, 1), (25, .ireturn, 1)]
set_option maxRecDepth 100000 in
theorem DL_tell_ok : ∀ q ∈ DL_tell, decode cL_tell q.1 = .ok q.2 := ck_ok (by decide +kernel)
def DL_take : List (Nat × Instr × Nat) := [(0, .aload_n 3, 1), (1, .aload_n 0, 1), (2, .iload_n 1, 1), (3, .iload_n 2, 1), (4, .invokevirtual 62, 3), (7, .i2l, 1), (8, .putfield 13, 3), (11, .goto 7, 3), (14, .astore 4, 2), (16, .iconst 1, 1), (17, .ireturn, 1), (18, .iconst 0, 1), (19, .ireturn, 1)]
set_option maxRecDepth 100000 in
theorem DL_take_ok : ∀ q ∈ DL_take, decode cL_take q.1 = .ok q.2 := ck_ok (by decide +kernel)
def DL_behind : List (Nat × Instr × Nat) := [(0, .aload 4, 2), (2, .aload_n 0, 1), (3, .iload_n 1, 1), (4, .iload_n 2, 1), (5, .iload_n 3, 1), (6, .invokevirtual 65, 3), (9, .i2l, 1), (10, .putfield 13, 3), (13, .goto 7, 3), (16, .astore 5, 2), (18, .iconst 1, 1), (19, .ireturn, 1), (20, .iconst 0, 1), (21, .ireturn, 1)]
set_option maxRecDepth 100000 in
theorem DL_behind_ok : ∀ q ∈ DL_behind, decode cL_behind q.1 = .ok q.2 := ck_ok (by decide +kernel)
def DL_alike : List (Nat × Instr × Nat) := [(0, .aload 5, 2), (2, .aload_n 0, 1), (3, .iload_n 1, 1), (4, .iload_n 2, 1), (5, .iload_n 3, 1), (6, .iload 4, 2), (8, .invokevirtual 68, 3), (11, .i2l, 1), (12, .putfield 13, 3), (15, .goto 11, 3), (18, .astore 6, 2), (20, .iconst 1, 1), (21, .ireturn, 1), (22, .astore 6, 2), (24, .iconst 2, 1), (25, .ireturn, 1), (26, .iconst 0, 1), (27, .ireturn, 1)]
set_option maxRecDepth 100000 in
theorem DL_alike_ok : ∀ q ∈ DL_alike, decode cL_alike q.1 = .ok q.2 := ck_ok (by decide +kernel)
def DL_match : List (Nat × Instr × Nat) := [(0, .aload 4, 2), (2, .aload_n 0, 1), (3, .iload_n 1, 1), (4, .iload_n 2, 1), (5, .iload_n 3, 1), (6, .invokevirtual 72, 3), (9, .i2l, 1), (10, .putfield 13, 3), (13, .goto 7, 3), (16, .astore 5, 2), (18, .iconst 1, 1), (19, .ireturn, 1), (20, .iconst 0, 1), (21, .ireturn, 1)]
set_option maxRecDepth 100000 in
theorem DL_match_ok : ∀ q ∈ DL_match, decode cL_match q.1 = .ok q.2 := ck_ok (by decide +kernel)
def DL_text : List (Nat × Instr × Nat) := [(0, .aload_n 2, 1), (1, .aload_n 0, 1), (2, .iload_n 1, 1), (3, .invokevirtual 75, 3), (6, .putfield 79, 3), (9, .goto 6, 3), (12, .astore_n 3, 1), (13, .iconst 1, 1), (14, .ireturn, 1), (15, .iconst 0, 1), (16, .ireturn, 1)]
set_option maxRecDepth 100000 in
theorem DL_text_ok : ∀ q ∈ DL_text, decode cL_text q.1 = .ok q.2 := ck_ok (by decide +kernel)
def DL_size : List (Nat × Instr × Nat) := [(0, .aload_n 2, 1), (1, .aload_n 0, 1), (2, .iload_n 1, 1), (3, .invokevirtual 83, 3), (6, .i2l, 1), (7, .putfield 13, 3), (10, .goto 6, 3), (13, .astore_n 3, 1), (14, .iconst 1, 1), (15, .ireturn, 1), (16, .iconst 0, 1), (17, .ireturn, 1)]
set_option maxRecDepth 100000 in
theorem DL_size_ok : ∀ q ∈ DL_size, decode cL_size q.1 = .ok q.2 := ck_ok (by decide +kernel)
def DL_depth : List (Nat × Instr × Nat) := [(0, .aload_n 2, 1), (1, .aload_n 0, 1), (2, .iload_n 1, 1), (3, .invokevirtual 86, 3), (6, .i2l, 1), (7, .putfield 13, 3), (10, .goto 6, 3), (13, .astore_n 3, 1), (14, .iconst 1, 1), (15, .ireturn, 1), (16, .iconst 0, 1), (17, .ireturn, 1)]
set_option maxRecDepth 100000 in
theorem DL_depth_ok : ∀ q ∈ DL_depth, decode cL_depth q.1 = .ok q.2 := ck_ok (by decide +kernel)
def DL_shared : List (Nat × Instr × Nat) := [(0, .aload_n 2, 1), (1, .aload_n 0, 1), (2, .iload_n 1, 1), (3, .invokevirtual 89, 3), (6, .i2l, 1), (7, .putfield 13, 3), (10, .goto 6, 3), (13, .astore_n 3, 1), (14, .iconst 1, 1), (15, .ireturn, 1), (16, .iconst 0, 1), (17, .ireturn, 1)]
set_option maxRecDepth 100000 in
theorem DL_shared_ok : ∀ q ∈ DL_shared, decode cL_shared q.1 = .ok q.2 := ck_ok (by decide +kernel)
def DL_letter : List (Nat × Instr × Nat) := [(0, .aload_n 3, 1), (1, .aload_n 0, 1), (2, .iload_n 1, 1), (3, .iload_n 2, 1), (4, .invokevirtual 92, 3), (7, .i2l, 1), (8, .putfield 13, 3), (11, .goto 7, 3), (14, .astore 4, 2), (16, .iconst 1, 1), (17, .ireturn, 1), (18, .iconst 0, 1), (19, .ireturn, 1)]
set_option maxRecDepth 100000 in
theorem DL_letter_ok : ∀ q ∈ DL_letter, decode cL_letter q.1 = .ok q.2 := ck_ok (by decide +kernel)
def DL_sizeAt : List (Nat × Instr × Nat) := [(0, .aload_n 3, 1), (1, .aload_n 0, 1), (2, .iload_n 1, 1), (3, .iload_n 2, 1), (4, .invokevirtual 95, 3), (7, .i2l, 1), (8, .putfield 13, 3), (11, .goto 7, 3), (14, .astore 4, 2), (16, .iconst 1, 1), (17, .ireturn, 1), (18, .iconst 0, 1), (19, .ireturn, 1)]
set_option maxRecDepth 100000 in
theorem DL_sizeAt_ok : ∀ q ∈ DL_sizeAt, decode cL_sizeAt q.1 = .ok q.2 := ck_ok (by decide +kernel)
def DL_count : List (Nat × Instr × Nat) := [(0, .aload_n 3, 1), (1, .aload_n 0, 1), (2, .iload_n 1, 1), (3, .iload_n 2, 1), (4, .invokevirtual 98, 3), (7, .i2l, 1), (8, .putfield 13, 3), (11, .goto 11, 3), (14, .astore 4, 2), (16, .iconst 1, 1), (17, .ireturn, 1), (18, .astore 4, 2), (20, .iconst 2, 1), (21, .ireturn, 1), (22, .iconst 0, 1), (23, .ireturn, 1)]
set_option maxRecDepth 100000 in
theorem DL_count_ok : ∀ q ∈ DL_count, decode cL_count q.1 = .ok q.2 := ck_ok (by decide +kernel)
def DL_names : List (Nat × Instr × Nat) := [(0, .aload_n 2, 1), (1, .aload_n 0, 1), (2, .iload_n 1, 1), (3, .invokevirtual 101, 3), (6, .i2l, 1), (7, .putfield 13, 3), (10, .goto 6, 3), (13, .astore_n 3, 1), (14, .iconst 1, 1), (15, .ireturn, 1), (16, .iconst 0, 1), (17, .ireturn, 1)]
set_option maxRecDepth 100000 in
theorem DL_names_ok : ∀ q ∈ DL_names, decode cL_names q.1 = .ok q.2 := ck_ok (by decide +kernel)
def DL_find : List (Nat × Instr × Nat) := [(0, .aload_n 3, 1), (1, .aload_n 0, 1), (2, .iload_n 1, 1), (3, .iload_n 2, 1), (4, .invokevirtual 104, 3), (7, .i2l, 1), (8, .putfield 13, 3), (11, .goto 7, 3), (14, .astore 4, 2), (16, .iconst 1, 1), (17, .ireturn, 1), (18, .iconst 0, 1), (19, .ireturn, 1)]
set_option maxRecDepth 100000 in
theorem DL_find_ok : ∀ q ∈ DL_find, decode cL_find q.1 = .ok q.2 := ck_ok (by decide +kernel)
def DL_differ : List (Nat × Instr × Nat) := [(0, .aload_n 3, 1), (1, .aload_n 0, 1), (2, .iload_n 1, 1), (3, .iload_n 2, 1), (4, .invokevirtual 107, 3), (7, .i2l, 1), (8, .putfield 13, 3), (11, .goto 7, 3), (14, .astore 4, 2), (16, .iconst 1, 1), (17, .ireturn, 1), (18, .iconst 0, 1), (19, .ireturn, 1)]
set_option maxRecDepth 100000 in
theorem DL_differ_ok : ∀ q ∈ DL_differ, decode cL_differ q.1 = .ok q.2 := ck_ok (by decide +kernel)
def DL_is : List (Nat × Instr × Nat) := [(0, .aload 4, 2), (2, .aload_n 0, 1), (3, .iload_n 1, 1), (4, .iload_n 2, 1), (5, .iload_n 3, 1), (6, .invokevirtual 110, 3), (9, .ifCond .eq 7, 3), (12, .lconst 1, 1), (13, .goto 4, 3), (16, .lconst 0, 1), (17, .putfield 13, 3), (20, .goto 11, 3), (23, .astore 5, 2), (25, .iconst 1, 1), (26, .ireturn, 1), (27, .astore 5, 2), (29, .iconst 2, 1), (30, .ireturn, 1), (31, .iconst 0, 1), (32, .ireturn, 1)]
set_option maxRecDepth 100000 in
theorem DL_is_ok : ∀ q ∈ DL_is, decode cL_is q.1 = .ok q.2 := ck_ok (by decide +kernel)
def DL_can : List (Nat × Instr × Nat) := [(0, .aload 4, 2), (2, .aload_n 0, 1), (3, .iload_n 1, 1), (4, .iload_n 2, 1), (5, .iload_n 3, 1), (6, .invokevirtual 114, 3), (9, .ifCond .eq 7, 3), (12, .lconst 1, 1), (13, .goto 4, 3), (16, .lconst 0, 1), (17, .putfield 13, 3), (20, .goto 11, 3), (23, .astore 5, 2), (25, .iconst 1, 1), (26, .ireturn, 1), (27, .astore 5, 2), (29, .iconst 2, 1), (30, .ireturn, 1), (31, .iconst 0, 1), (32, .ireturn, 1)]
set_option maxRecDepth 100000 in
theorem DL_can_ok : ∀ q ∈ DL_can, decode cL_can q.1 = .ok q.2 := ck_ok (by decide +kernel)
def DL_steps : List (Nat × Instr × Nat) := [(0, .aload_n 3, 1), (1, .aload_n 0, 1), (2, .iload_n 1, 1), (3, .iload_n 2, 1), (4, .invokevirtual 117, 3), (7, .i2l, 1), (8, .putfield 13, 3), (11, .goto 7, 3), (14, .astore 4, 2), (16, .iconst 1, 1), (17, .ireturn, 1), (18, .iconst 0, 1), (19, .ireturn, 1)]
set_option maxRecDepth 100000 in
theorem DL_steps_ok : ∀ q ∈ DL_steps, decode cL_steps q.1 = .ok q.2 := ck_ok (by decide +kernel)
def DL_why : List (Nat × Instr × Nat) := [(0, .aload_n 3, 1), (1, .aload_n 0, 1), (2, .iload_n 1, 1), (3, .iload_n 2, 1), (4, .invokevirtual 120, 3), (7, .i2l, 1), (8, .putfield 13, 3), (11, .goto 7, 3), (14, .astore 4, 2), (16, .iconst 1, 1), (17, .ireturn, 1), (18, .iconst 0, 1), (19, .ireturn, 1)]
set_option maxRecDepth 100000 in
theorem DL_why_ok : ∀ q ∈ DL_why, decode cL_why q.1 = .ok q.2 := ck_ok (by decide +kernel)
def DL_told : List (Nat × Instr × Nat) := [(0, .aload_n 3, 1), (1, .aload_n 0, 1), (2, .iload_n 1, 1), (3, .iload_n 2, 1), (4, .invokevirtual 123, 3), (7, .putfield 79, 3), (10, .goto 11, 3), (13, .astore 4, 2), (15, .iconst 1, 1), (16, .ireturn, 1), (17, .astore 4, 2), (19, .iconst 2, 1), (20, .ireturn, 1), (21, .iconst 0, 1), (22, .ireturn, 1)]
set_option maxRecDepth 100000 in
theorem DL_told_ok : ∀ q ∈ DL_told, decode cL_told q.1 = .ok q.2 := ck_ok (by decide +kernel)
def DL_moved : List (Nat × Instr × Nat) := [(0, .aload_n 2, 1), (1, .aload_n 0, 1), (2, .iload_n 1, 1), (3, .invokevirtual 127, 3), (6, .i2l, 1), (7, .putfield 13, 3), (10, .goto 6, 3), (13, .astore_n 3, 1), (14, .iconst 1, 1), (15, .ireturn, 1), (16, .iconst 0, 1), (17, .ireturn, 1)]
set_option maxRecDepth 100000 in
theorem DL_moved_ok : ∀ q ∈ DL_moved, decode cL_moved q.1 = .ok q.2 := ck_ok (by decide +kernel)
def DL_makes : List (Nat × Instr × Nat) := [(0, .aload 4, 2), (2, .aload_n 0, 1), (3, .iload_n 1, 1), (4, .iload_n 2, 1), (5, .iload_n 3, 1), (6, .invokevirtual 130, 3), (9, .ifCond .eq 7, 3), (12, .lconst 1, 1), (13, .goto 4, 3), (16, .lconst 0, 1), (17, .putfield 13, 3), (20, .goto 7, 3), (23, .astore 5, 2), (25, .iconst 1, 1), (26, .ireturn, 1), (27, .iconst 0, 1), (28, .ireturn, 1)]
set_option maxRecDepth 100000 in
theorem DL_makes_ok : ∀ q ∈ DL_makes, decode cL_makes q.1 = .ok q.2 := ck_ok (by decide +kernel)
def DL_isSo : List (Nat × Instr × Nat) := [(0, .aload_n 3, 1), (1, .aload_n 0, 1), (2, .iload_n 1, 1), (3, .iload_n 2, 1), (4, .invokevirtual 133, 3), (7, .ifCond .eq 7, 3), (10, .lconst 1, 1), (11, .goto 4, 3), (14, .lconst 0, 1), (15, .putfield 13, 3), (18, .goto 11, 3), (21, .astore 4, 2), (23, .iconst 1, 1), (24, .ireturn, 1), (25, .astore 4, 2), (27, .iconst 2, 1), (28, .ireturn, 1), (29, .iconst 0, 1), (30, .ireturn, 1)]
set_option maxRecDepth 100000 in
theorem DL_isSo_ok : ∀ q ∈ DL_isSo, decode cL_isSo q.1 = .ok q.2 := ck_ok (by decide +kernel)
def DL_unlike : List (Nat × Instr × Nat) := [(0, .aload_n 3, 1), (1, .aload_n 0, 1), (2, .iload_n 1, 1), (3, .iload_n 2, 1), (4, .invokevirtual 137, 3), (7, .i2l, 1), (8, .putfield 13, 3), (11, .goto 7, 3), (14, .astore 4, 2), (16, .iconst 1, 1), (17, .ireturn, 1), (18, .iconst 0, 1), (19, .ireturn, 1)]
set_option maxRecDepth 100000 in
theorem DL_unlike_ok : ∀ q ∈ DL_unlike, decode cL_unlike q.1 = .ok q.2 := ck_ok (by decide +kernel)
def DL_weight : List (Nat × Instr × Nat) := [(0, .aload_n 3, 1), (1, .aload_n 0, 1), (2, .iload_n 1, 1), (3, .iload_n 2, 1), (4, .invokevirtual 140, 3), (7, .i2l, 1), (8, .putfield 13, 3), (11, .goto 7, 3), (14, .astore 4, 2), (16, .iconst 1, 1), (17, .ireturn, 1), (18, .iconst 0, 1), (19, .ireturn, 1)]
set_option maxRecDepth 100000 in
theorem DL_weight_ok : ∀ q ∈ DL_weight, decode cL_weight q.1 = .ok q.2 := ck_ok (by decide +kernel)
def DL_house : List (Nat × Instr × Nat) := [(0, .aload_n 2, 1), (1, .aload_n 0, 1), (2, .iload_n 1, 1), (3, .invokevirtual 144, 3), (6, .i2l, 1), (7, .putfield 13, 3), (10, .goto 6, 3), (13, .astore_n 3, 1), (14, .iconst 1, 1), (15, .ireturn, 1), (16, .iconst 0, 1), (17, .ireturn, 1)]
set_option maxRecDepth 100000 in
theorem DL_house_ok : ∀ q ∈ DL_house, decode cL_house q.1 = .ok q.2 := ck_ok (by decide +kernel)
def SL_a : List UInt8 := [0xbb, 0x00, 0x08, 0x59, 0xb7, 0x00, 0x93, 0x4c, 0xbb, 0x00, 0x94, 0x59, 0xb7, 0x00, 0x96, 0x4d, 0xbb, 0x00, 0x0e, 0x59, 0xb7, 0x00, 0x97, 0x4e, 0x03, 0x36, 0x04, 0x15, 0x04, 0x2a, 0xbe, 0x10, 0x06, 0x64, 0xa3, 0x07, 0x5c, 0x2a, 0x15, 0x04, 0x2e, 0x10, 0x3f, 0x7e, 0xaa, 0x00, 0x00, 0x00, 0x00, 0x00, 0x07, 0x4c, 0x00, 0x00, 0x00, 0x00, 0x00, 0x00, 0x00, 0x28, 0x00, 0x00, 0x00, 0xb4, 0x00, 0x00, 0x00, 0xdc, 0x00, 0x00, 0x01, 0x28, 0x00, 0x00, 0x01, 0x50, 0x00, 0x00, 0x01, 0x78, 0x00, 0x00, 0x01, 0xac, 0x00, 0x00, 0x01, 0xe0, 0x00, 0x00, 0x02, 0x14, 0x00, 0x00, 0x02, 0x3c, 0x00, 0x00, 0x02, 0x58, 0x00, 0x00, 0x02, 0x8c, 0x00, 0x00, 0x02, 0xc0, 0x00, 0x00, 0x02, 0xdc, 0x00, 0x00, 0x03, 0x10, 0x00, 0x00, 0x03, 0x38, 0x00, 0x00, 0x03, 0x6c, 0x00, 0x00, 0x03, 0xac, 0x00, 0x00, 0x03, 0xe0, 0x00, 0x00, 0x03, 0xfc, 0x00, 0x00, 0x04, 0x18, 0x00, 0x00, 0x04, 0x34, 0x00, 0x00, 0x04, 0x50, 0x00, 0x00, 0x04, 0x78, 0x00, 0x00, 0x04, 0xa0, 0x00, 0x00, 0x04, 0xc8, 0x00, 0x00, 0x04, 0xe4, 0x00, 0x00, 0x05, 0x0c, 0x00, 0x00, 0x05, 0x34, 0x00, 0x00, 0x05, 0x68, 0x00, 0x00, 0x05, 0x9c, 0x00, 0x00, 0x05, 0xc4, 0x00, 0x00, 0x05, 0xec, 0x00, 0x00, 0x06, 0x14, 0x00, 0x00, 0x06, 0x30, 0x00, 0x00, 0x06, 0x64, 0x00, 0x00, 0x06, 0x8c, 0x00, 0x00, 0x06, 0xd1, 0x00, 0x00, 0x07, 0x09, 0x00, 0x00, 0x07, 0x25, 0x00, 0x00, 0x07, 0x32, 0x00, 0x00, 0x07, 0x3f]
def SL_c0 : List UInt8 := [0x2b, 0x2a, 0x15, 0x04, 0x04, 0x60, 0x2e, 0x2a, 0x15, 0x04, 0x05, 0x60, 0x2e, 0x2d, 0xb8, 0x00, 0x98, 0x36, 0x05, 0x2c, 0x2a, 0x15, 0x04, 0x04, 0x60, 0x2e, 0x2a, 0x15, 0x04, 0x05, 0x60, 0x2e, 0xb6, 0x00, 0x9d, 0x36, 0x06, 0xa7, 0x06, 0x73]
def SL_c1 : List UInt8 := [0x2b, 0x2a, 0x15, 0x04, 0x04, 0x60, 0x2e, 0x2a, 0x15, 0x04, 0x05, 0x60, 0x2e, 0x2a, 0x15, 0x04, 0x06, 0x60, 0x2e, 0x2a, 0x15, 0x04, 0x07, 0x60, 0x2e, 0x2a, 0x15, 0x04, 0x08, 0x60, 0x2e, 0x2d, 0xb8, 0x00, 0x9e, 0x36, 0x05, 0x2c, 0x2a, 0x15, 0x04, 0x04, 0x60, 0x2e, 0x2a, 0x15, 0x04, 0x05, 0x60, 0x2e, 0x2a, 0x15, 0x04, 0x06, 0x60, 0x2e, 0x2a, 0x15, 0x04, 0x07, 0x60, 0x2e, 0x2a, 0x15, 0x04, 0x08, 0x60, 0x2e, 0xb6, 0x00, 0xa1, 0x36, 0x06, 0xa7, 0x06, 0x27]
def SL_c2 : List UInt8 := [0x2b, 0x2a, 0x15, 0x04, 0x04, 0x60, 0x2e, 0x2a, 0x15, 0x04, 0x05, 0x60, 0x2e, 0x2d, 0xb8, 0x00, 0xa2, 0x36, 0x05, 0x2c, 0x2a, 0x15, 0x04, 0x04, 0x60, 0x2e, 0x2a, 0x15, 0x04, 0x05, 0x60, 0x2e, 0xb6, 0x00, 0xa4, 0x36, 0x06, 0xa7, 0x05, 0xff]
def SL_c3 : List UInt8 := [0x2b, 0x2a, 0x15, 0x04, 0x04, 0x60, 0x2e, 0x2a, 0x15, 0x04, 0x05, 0x60, 0x2e, 0x2d, 0xb8, 0x00, 0xa5, 0x36, 0x05, 0x2c, 0x2a, 0x15, 0x04, 0x04, 0x60, 0x2e, 0x2a, 0x15, 0x04, 0x05, 0x60, 0x2e, 0xb6, 0x00, 0xa7, 0x36, 0x06, 0xa7, 0x05, 0xd7]
def SL_c4 : List UInt8 := [0x2b, 0x2a, 0x15, 0x04, 0x04, 0x60, 0x2e, 0x2a, 0x15, 0x04, 0x05, 0x60, 0x2e, 0x2a, 0x15, 0x04, 0x06, 0x60, 0x2e, 0x2d, 0xb8, 0x00, 0xa8, 0x36, 0x05, 0x2c, 0x2a, 0x15, 0x04, 0x04, 0x60, 0x2e, 0x2a, 0x15, 0x04, 0x05, 0x60, 0x2e, 0x2a, 0x15, 0x04, 0x06, 0x60, 0x2e, 0xb6, 0x00, 0xab, 0x36, 0x06, 0xa7, 0x05, 0xa3]
def SL_c5 : List UInt8 := [0x2b, 0x2a, 0x15, 0x04, 0x04, 0x60, 0x2e, 0x2a, 0x15, 0x04, 0x05, 0x60, 0x2e, 0x2a, 0x15, 0x04, 0x06, 0x60, 0x2e, 0x2d, 0xb8, 0x00, 0xac, 0x36, 0x05, 0x2c, 0x2a, 0x15, 0x04, 0x04, 0x60, 0x2e, 0x2a, 0x15, 0x04, 0x05, 0x60, 0x2e, 0x2a, 0x15, 0x04, 0x06, 0x60, 0x2e, 0xb6, 0x00, 0xae, 0x36, 0x06, 0xa7, 0x05, 0x6f]
def SL_c6 : List UInt8 := [0x2b, 0x2a, 0x15, 0x04, 0x04, 0x60, 0x2e, 0x2a, 0x15, 0x04, 0x05, 0x60, 0x2e, 0x2a, 0x15, 0x04, 0x06, 0x60, 0x2e, 0x2d, 0xb8, 0x00, 0xaf, 0x36, 0x05, 0x2c, 0x2a, 0x15, 0x04, 0x04, 0x60, 0x2e, 0x2a, 0x15, 0x04, 0x05, 0x60, 0x2e, 0x2a, 0x15, 0x04, 0x06, 0x60, 0x2e, 0xb6, 0x00, 0xb1, 0x36, 0x06, 0xa7, 0x05, 0x3b]
def SL_c7 : List UInt8 := [0x2b, 0x2a, 0x15, 0x04, 0x04, 0x60, 0x2e, 0x2a, 0x15, 0x04, 0x05, 0x60, 0x2e, 0x2d, 0xb8, 0x00, 0xb2, 0x36, 0x05, 0x2c, 0x2a, 0x15, 0x04, 0x04, 0x60, 0x2e, 0x2a, 0x15, 0x04, 0x05, 0x60, 0x2e, 0xb6, 0x00, 0xb4, 0x36, 0x06, 0xa7, 0x05, 0x13]
def SL_c8 : List UInt8 := [0x2b, 0x2a, 0x15, 0x04, 0x04, 0x60, 0x2e, 0x2d, 0xb8, 0x00, 0xb5, 0x36, 0x05, 0x2c, 0x2a, 0x15, 0x04, 0x04, 0x60, 0x2e, 0xb6, 0x00, 0xb8, 0x36, 0x06, 0xa7, 0x04, 0xf7]
def SL_c9 : List UInt8 := [0x2b, 0x2a, 0x15, 0x04, 0x04, 0x60, 0x2e, 0x2a, 0x15, 0x04, 0x05, 0x60, 0x2e, 0x2a, 0x15, 0x04, 0x06, 0x60, 0x2e, 0x2d, 0xb8, 0x00, 0xb9, 0x36, 0x05, 0x2c, 0x2a, 0x15, 0x04, 0x04, 0x60, 0x2e, 0x2a, 0x15, 0x04, 0x05, 0x60, 0x2e, 0x2a, 0x15, 0x04, 0x06, 0x60, 0x2e, 0xb6, 0x00, 0xbb, 0x36, 0x06, 0xa7, 0x04, 0xc3]
def SL_c10 : List UInt8 := [0x2b, 0x2a, 0x15, 0x04, 0x04, 0x60, 0x2e, 0x2a, 0x15, 0x04, 0x05, 0x60, 0x2e, 0x2a, 0x15, 0x04, 0x06, 0x60, 0x2e, 0x2d, 0xb8, 0x00, 0xbc, 0x36, 0x05, 0x2c, 0x2a, 0x15, 0x04, 0x04, 0x60, 0x2e, 0x2a, 0x15, 0x04, 0x05, 0x60, 0x2e, 0x2a, 0x15, 0x04, 0x06, 0x60, 0x2e, 0xb6, 0x00, 0xbe, 0x36, 0x06, 0xa7, 0x04, 0x8f]
def SL_c11 : List UInt8 := [0x2b, 0x2a, 0x15, 0x04, 0x04, 0x60, 0x2e, 0x2d, 0xb8, 0x00, 0xbf, 0x36, 0x05, 0x2c, 0x2a, 0x15, 0x04, 0x04, 0x60, 0x2e, 0xb6, 0x00, 0xc1, 0x36, 0x06, 0xa7, 0x04, 0x73]
def SL_c12 : List UInt8 := [0x2b, 0x2a, 0x15, 0x04, 0x04, 0x60, 0x2e, 0x2a, 0x15, 0x04, 0x05, 0x60, 0x2e, 0x2a, 0x15, 0x04, 0x06, 0x60, 0x2e, 0x2d, 0xb8, 0x00, 0xc2, 0x36, 0x05, 0x2c, 0x2a, 0x15, 0x04, 0x04, 0x60, 0x2e, 0x2a, 0x15, 0x04, 0x05, 0x60, 0x2e, 0x2a, 0x15, 0x04, 0x06, 0x60, 0x2e, 0xb6, 0x00, 0xc4, 0x36, 0x06, 0xa7, 0x04, 0x3f]
def SL_c13 : List UInt8 := [0x2b, 0x2a, 0x15, 0x04, 0x04, 0x60, 0x2e, 0x2a, 0x15, 0x04, 0x05, 0x60, 0x2e, 0x2d, 0xb8, 0x00, 0xc5, 0x36, 0x05, 0x2c, 0x2a, 0x15, 0x04, 0x04, 0x60, 0x2e, 0x2a, 0x15, 0x04, 0x05, 0x60, 0x2e, 0xb6, 0x00, 0xc7, 0x36, 0x06, 0xa7, 0x04, 0x17]
def SL_c14 : List UInt8 := [0x2b, 0x2a, 0x15, 0x04, 0x04, 0x60, 0x2e, 0x2a, 0x15, 0x04, 0x05, 0x60, 0x2e, 0x2a, 0x15, 0x04, 0x06, 0x60, 0x2e, 0x2d, 0xb8, 0x00, 0xc8, 0x36, 0x05, 0x2c, 0x2a, 0x15, 0x04, 0x04, 0x60, 0x2e, 0x2a, 0x15, 0x04, 0x05, 0x60, 0x2e, 0x2a, 0x15, 0x04, 0x06, 0x60, 0x2e, 0xb6, 0x00, 0xca, 0x36, 0x06, 0xa7, 0x03, 0xe3]
def SL_c15 : List UInt8 := [0x2b, 0x2a, 0x15, 0x04, 0x04, 0x60, 0x2e, 0x2a, 0x15, 0x04, 0x05, 0x60, 0x2e, 0x2a, 0x15, 0x04, 0x06, 0x60, 0x2e, 0x2a, 0x15, 0x04, 0x07, 0x60, 0x2e, 0x2d, 0xb8, 0x00, 0xcb, 0x36, 0x05, 0x2c, 0x2a, 0x15, 0x04, 0x04, 0x60, 0x2e, 0x2a, 0x15, 0x04, 0x05, 0x60, 0x2e, 0x2a, 0x15, 0x04, 0x06, 0x60, 0x2e, 0x2a, 0x15, 0x04, 0x07, 0x60, 0x2e, 0xb6, 0x00, 0xce, 0x36, 0x06, 0xa7, 0x03, 0xa3]
def SL_c16 : List UInt8 := [0x2b, 0x2a, 0x15, 0x04, 0x04, 0x60, 0x2e, 0x2a, 0x15, 0x04, 0x05, 0x60, 0x2e, 0x2a, 0x15, 0x04, 0x06, 0x60, 0x2e, 0x2d, 0xb8, 0x00, 0xcf, 0x36, 0x05, 0x2c, 0x2a, 0x15, 0x04, 0x04, 0x60, 0x2e, 0x2a, 0x15, 0x04, 0x05, 0x60, 0x2e, 0x2a, 0x15, 0x04, 0x06, 0x60, 0x2e, 0xb6, 0x00, 0xd1, 0x36, 0x06, 0xa7, 0x03, 0x6f]
def SL_c17 : List UInt8 := [0x2b, 0x2a, 0x15, 0x04, 0x04, 0x60, 0x2e, 0x2d, 0xb8, 0x00, 0xd2, 0x36, 0x05, 0x2c, 0x2a, 0x15, 0x04, 0x04, 0x60, 0x2e, 0xb6, 0x00, 0xd4, 0x3a, 0x06, 0xa7, 0x03, 0x53]
def SL_c18 : List UInt8 := [0x2b, 0x2a, 0x15, 0x04, 0x04, 0x60, 0x2e, 0x2d, 0xb8, 0x00, 0xd5, 0x36, 0x05, 0x2c, 0x2a, 0x15, 0x04, 0x04, 0x60, 0x2e, 0xb6, 0x00, 0xd7, 0x36, 0x06, 0xa7, 0x03, 0x37]
def SL_c19 : List UInt8 := [0x2b, 0x2a, 0x15, 0x04, 0x04, 0x60, 0x2e, 0x2d, 0xb8, 0x00, 0xd8, 0x36, 0x05, 0x2c, 0x2a, 0x15, 0x04, 0x04, 0x60, 0x2e, 0xb6, 0x00, 0xda, 0x36, 0x06, 0xa7, 0x03, 0x1b]
def SL_c20 : List UInt8 := [0x2b, 0x2a, 0x15, 0x04, 0x04, 0x60, 0x2e, 0x2d, 0xb8, 0x00, 0xdb, 0x36, 0x05, 0x2c, 0x2a, 0x15, 0x04, 0x04, 0x60, 0x2e, 0xb6, 0x00, 0xdd, 0x36, 0x06, 0xa7, 0x02, 0xff]
def SL_c21 : List UInt8 := [0x2b, 0x2a, 0x15, 0x04, 0x04, 0x60, 0x2e, 0x2a, 0x15, 0x04, 0x05, 0x60, 0x2e, 0x2d, 0xb8, 0x00, 0xde, 0x36, 0x05, 0x2c, 0x2a, 0x15, 0x04, 0x04, 0x60, 0x2e, 0x2a, 0x15, 0x04, 0x05, 0x60, 0x2e, 0xb6, 0x00, 0xe0, 0x36, 0x06, 0xa7, 0x02, 0xd7]
def SL_c22 : List UInt8 := [0x2b, 0x2a, 0x15, 0x04, 0x04, 0x60, 0x2e, 0x2a, 0x15, 0x04, 0x05, 0x60, 0x2e, 0x2d, 0xb8, 0x00, 0xe1, 0x36, 0x05, 0x2c, 0x2a, 0x15, 0x04, 0x04, 0x60, 0x2e, 0x2a, 0x15, 0x04, 0x05, 0x60, 0x2e, 0xb6, 0x00, 0xe3, 0x36, 0x06, 0xa7, 0x02, 0xaf]
def SL_c23 : List UInt8 := [0x2b, 0x2a, 0x15, 0x04, 0x04, 0x60, 0x2e, 0x2a, 0x15, 0x04, 0x05, 0x60, 0x2e, 0x2d, 0xb8, 0x00, 0xe4, 0x36, 0x05, 0x2c, 0x2a, 0x15, 0x04, 0x04, 0x60, 0x2e, 0x2a, 0x15, 0x04, 0x05, 0x60, 0x2e, 0xb6, 0x00, 0xe6, 0x36, 0x06, 0xa7, 0x02, 0x87]
def SL_c24 : List UInt8 := [0x2b, 0x2a, 0x15, 0x04, 0x04, 0x60, 0x2e, 0x2d, 0xb8, 0x00, 0xe7, 0x36, 0x05, 0x2c, 0x2a, 0x15, 0x04, 0x04, 0x60, 0x2e, 0xb6, 0x00, 0xe9, 0x36, 0x06, 0xa7, 0x02, 0x6b]
def SL_c25 : List UInt8 := [0x2b, 0x2a, 0x15, 0x04, 0x04, 0x60, 0x2e, 0x2a, 0x15, 0x04, 0x05, 0x60, 0x2e, 0x2d, 0xb8, 0x00, 0xea, 0x36, 0x05, 0x2c, 0x2a, 0x15, 0x04, 0x04, 0x60, 0x2e, 0x2a, 0x15, 0x04, 0x05, 0x60, 0x2e, 0xb6, 0x00, 0xec, 0x36, 0x06, 0xa7, 0x02, 0x43]
def SL_c26 : List UInt8 := [0x2b, 0x2a, 0x15, 0x04, 0x04, 0x60, 0x2e, 0x2a, 0x15, 0x04, 0x05, 0x60, 0x2e, 0x2d, 0xb8, 0x00, 0xed, 0x36, 0x05, 0x2c, 0x2a, 0x15, 0x04, 0x04, 0x60, 0x2e, 0x2a, 0x15, 0x04, 0x05, 0x60, 0x2e, 0xb6, 0x00, 0xef, 0x36, 0x06, 0xa7, 0x02, 0x1b]
def SL_c27 : List UInt8 := [0x2b, 0x2a, 0x15, 0x04, 0x04, 0x60, 0x2e, 0x2a, 0x15, 0x04, 0x05, 0x60, 0x2e, 0x2a, 0x15, 0x04, 0x06, 0x60, 0x2e, 0x2d, 0xb8, 0x00, 0xf0, 0x36, 0x05, 0x2c, 0x2a, 0x15, 0x04, 0x04, 0x60, 0x2e, 0x2a, 0x15, 0x04, 0x05, 0x60, 0x2e, 0x2a, 0x15, 0x04, 0x06, 0x60, 0x2e, 0xb6, 0x00, 0xf2, 0x36, 0x06, 0xa7, 0x01, 0xe7]
def SL_c28 : List UInt8 := [0x2b, 0x2a, 0x15, 0x04, 0x04, 0x60, 0x2e, 0x2a, 0x15, 0x04, 0x05, 0x60, 0x2e, 0x2a, 0x15, 0x04, 0x06, 0x60, 0x2e, 0x2d, 0xb8, 0x00, 0xf3, 0x36, 0x05, 0x2c, 0x2a, 0x15, 0x04, 0x04, 0x60, 0x2e, 0x2a, 0x15, 0x04, 0x05, 0x60, 0x2e, 0x2a, 0x15, 0x04, 0x06, 0x60, 0x2e, 0xb6, 0x00, 0xf5, 0x36, 0x06, 0xa7, 0x01, 0xb3]
def SL_c29 : List UInt8 := [0x2b, 0x2a, 0x15, 0x04, 0x04, 0x60, 0x2e, 0x2a, 0x15, 0x04, 0x05, 0x60, 0x2e, 0x2d, 0xb8, 0x00, 0xf6, 0x36, 0x05, 0x2c, 0x2a, 0x15, 0x04, 0x04, 0x60, 0x2e, 0x2a, 0x15, 0x04, 0x05, 0x60, 0x2e, 0xb6, 0x00, 0xf8, 0x36, 0x06, 0xa7, 0x01, 0x8b]
def SL_c30 : List UInt8 := [0x2b, 0x2a, 0x15, 0x04, 0x04, 0x60, 0x2e, 0x2a, 0x15, 0x04, 0x05, 0x60, 0x2e, 0x2d, 0xb8, 0x00, 0xf9, 0x36, 0x05, 0x2c, 0x2a, 0x15, 0x04, 0x04, 0x60, 0x2e, 0x2a, 0x15, 0x04, 0x05, 0x60, 0x2e, 0xb6, 0x00, 0xfb, 0x36, 0x06, 0xa7, 0x01, 0x63]
def SL_c31 : List UInt8 := [0x2b, 0x2a, 0x15, 0x04, 0x04, 0x60, 0x2e, 0x2a, 0x15, 0x04, 0x05, 0x60, 0x2e, 0x2d, 0xb8, 0x00, 0xfc, 0x36, 0x05, 0x2c, 0x2a, 0x15, 0x04, 0x04, 0x60, 0x2e, 0x2a, 0x15, 0x04, 0x05, 0x60, 0x2e, 0xb6, 0x00, 0xfe, 0x3a, 0x06, 0xa7, 0x01, 0x3b]
def SL_c32 : List UInt8 := [0x2b, 0x2a, 0x15, 0x04, 0x04, 0x60, 0x2e, 0x2d, 0xb8, 0x00, 0xff, 0x36, 0x05, 0x2c, 0x2a, 0x15, 0x04, 0x04, 0x60, 0x2e, 0xb6, 0x01, 0x01, 0x36, 0x06, 0xa7, 0x01, 0x1f]
def SL_c33 : List UInt8 := [0x2b, 0x2a, 0x15, 0x04, 0x04, 0x60, 0x2e, 0x2a, 0x15, 0x04, 0x05, 0x60, 0x2e, 0x2a, 0x15, 0x04, 0x06, 0x60, 0x2e, 0x2d, 0xb8, 0x01, 0x02, 0x36, 0x05, 0x2c, 0x2a, 0x15, 0x04, 0x04, 0x60, 0x2e, 0x2a, 0x15, 0x04, 0x05, 0x60, 0x2e, 0x2a, 0x15, 0x04, 0x06, 0x60, 0x2e, 0xb6, 0x01, 0x04, 0x36, 0x06, 0xa7, 0x00, 0xeb]
def SL_c34 : List UInt8 := [0x2b, 0x2a, 0x15, 0x04, 0x04, 0x60, 0x2e, 0x2a, 0x15, 0x04, 0x05, 0x60, 0x2e, 0x2d, 0xb8, 0x01, 0x05, 0x36, 0x05, 0x2c, 0x2a, 0x15, 0x04, 0x04, 0x60, 0x2e, 0x2a, 0x15, 0x04, 0x05, 0x60, 0x2e, 0xb6, 0x01, 0x07, 0x36, 0x06, 0xa7, 0x00, 0xc3]
def SL_c35 : List UInt8 := [0x2b, 0x2a, 0x15, 0x04, 0x04, 0x60, 0x2e, 0x2a, 0x15, 0x04, 0x05, 0x60, 0x2e, 0x2d, 0xb8, 0x01, 0x08, 0x36, 0x05, 0x2c, 0x2a, 0x15, 0x04, 0x04, 0x60, 0x2e, 0x2a, 0x15, 0x04, 0x05, 0x60, 0x2e, 0xb6, 0x01, 0x0a, 0x36, 0x06, 0x2c, 0xb6, 0x01, 0x0b, 0x15, 0x05, 0x9f, 0x00, 0x05, 0x03, 0xac, 0x15, 0x05, 0x9a, 0x00, 0x10, 0x2d, 0xb4, 0x00, 0x0d, 0x15, 0x06, 0x85, 0x94, 0x99, 0x00, 0x05, 0x03, 0xac, 0xa7, 0x00, 0x7e]
def SL_c36 : List UInt8 := [0x2b, 0x2a, 0x15, 0x04, 0x04, 0x60, 0x2e, 0x2a, 0x15, 0x04, 0x05, 0x60, 0x2e, 0x99, 0x00, 0x07, 0x04, 0xa7, 0x00, 0x04, 0x03, 0x2d, 0xb8, 0x01, 0x0f, 0x36, 0x05, 0x2c, 0x2a, 0x15, 0x04, 0x04, 0x60, 0x2e, 0x2a, 0x15, 0x04, 0x05, 0x60, 0x2e, 0x99, 0x00, 0x07, 0x04, 0xa7, 0x00, 0x04, 0x03, 0xb6, 0x01, 0x12, 0x36, 0x06, 0xa7, 0x00, 0x46]
def SL_c37 : List UInt8 := [0x2b, 0x2a, 0x15, 0x04, 0x04, 0x60, 0x2e, 0x2d, 0xb8, 0x01, 0x13, 0x36, 0x05, 0x2c, 0x2a, 0x15, 0x04, 0x04, 0x60, 0x2e, 0xb6, 0x01, 0x15, 0x36, 0x06, 0xa7, 0x00, 0x2a]
def SL_c38 : List UInt8 := [0x2b, 0xb6, 0x01, 0x16, 0x57, 0x2c, 0xb6, 0x01, 0x19, 0x57, 0xa7, 0x00, 0x1d]
def SL_c39 : List UInt8 := [0x2b, 0xb6, 0x01, 0x1a, 0x57, 0x2c, 0xb6, 0x01, 0x1e, 0x57, 0xa7, 0x00, 0x10]
def SL_c40 : List UInt8 := [0x2b, 0xb6, 0x01, 0x1f, 0x58, 0x2c, 0xb6, 0x01, 0x23, 0x58, 0xa7, 0x00, 0x03]
def SL_z : List UInt8 := [0x84, 0x04, 0x06, 0xa7, 0xf8, 0xa0, 0x04, 0xac]
def SLs : List (List UInt8) := [SL_a, SL_c0, SL_c1, SL_c2, SL_c3, SL_c4, SL_c5, SL_c6, SL_c7, SL_c8, SL_c9, SL_c10, SL_c11, SL_c12, SL_c13, SL_c14, SL_c15, SL_c16, SL_c17, SL_c18, SL_c19, SL_c20, SL_c21, SL_c22, SL_c23, SL_c24, SL_c25, SL_c26, SL_c27, SL_c28, SL_c29, SL_c30, SL_c31, SL_c32, SL_c33, SL_c34, SL_c35, SL_c36, SL_c37, SL_c38, SL_c39, SL_c40, SL_z]
set_option maxRecDepth 100000 in
theorem cL_bytes : cL_law.data.toList = SLs.flatten := by decide +kernel
def DL_a : List (Nat × Instr × Nat) := [(0, .new 8, 3), (3, .dup, 1), (4, .invokespecial 147, 3), (7, .astore_n 1, 1), (8, .new 148, 3), (11, .dup, 1), (12, .invokespecial 150, 3), (15, .astore_n 2, 1), (16, .new 14, 3), (19, .dup, 1), (20, .invokespecial 151, 3), (23, .astore_n 3, 1), (24, .iconst 0, 1), (25, .istore 4, 2), (27, .iload 4, 2), (29, .aload_n 0, 1), (30, .arraylength, 1), (31, .bipush 6, 2), (33, .isub, 1), (34, .if_icmp .gt 1884, 3), (37, .aload_n 0, 1), (38, .iload 4, 2), (40, .iaload, 1), (41, .bipush 63, 2), (43, .iand, 1), (44, .tableswitch 1868 0 40 #[180, 220, 296, 336, 376, 428, 480, 532, 572, 600, 652, 704, 732, 784, 824, 876, 940, 992, 1020, 1048, 1076, 1104, 1144, 1184, 1224, 1252, 1292, 1332, 1384, 1436, 1476, 1516, 1556, 1584, 1636, 1676, 1745, 1801, 1829, 1842, 1855], 180)]
set_option maxRecDepth 100000 in
theorem DL_a_ok : ∀ q ∈ DL_a, decode cL_law q.1 = .ok q.2 := by decide +kernel
def DL_c0 : List (Nat × Instr × Nat) := [(224, .aload_n 1, 1), (225, .aload_n 0, 1), (226, .iload 4, 2), (228, .iconst 1, 1), (229, .iadd, 1), (230, .iaload, 1), (231, .aload_n 0, 1), (232, .iload 4, 2), (234, .iconst 2, 1), (235, .iadd, 1), (236, .iaload, 1), (237, .aload_n 3, 1), (238, .invokestatic 152, 3), (241, .istore 5, 2), (243, .aload_n 2, 1), (244, .aload_n 0, 1), (245, .iload 4, 2), (247, .iconst 1, 1), (248, .iadd, 1), (249, .iaload, 1), (250, .aload_n 0, 1), (251, .iload 4, 2), (253, .iconst 2, 1), (254, .iadd, 1), (255, .iaload, 1), (256, .invokevirtual 157, 3), (259, .istore 6, 2), (261, .goto 1651, 3)]
set_option maxRecDepth 100000 in
theorem DL_c0_ok : ∀ q ∈ DL_c0, decode cL_law q.1 = .ok q.2 := ck_list cL_bytes (t := 1) (r := SL_c0) (d := 224) rfl (by decide +kernel) (by decide +kernel)
def DL_c1 : List (Nat × Instr × Nat) := [(264, .aload_n 1, 1), (265, .aload_n 0, 1), (266, .iload 4, 2), (268, .iconst 1, 1), (269, .iadd, 1), (270, .iaload, 1), (271, .aload_n 0, 1), (272, .iload 4, 2), (274, .iconst 2, 1), (275, .iadd, 1), (276, .iaload, 1), (277, .aload_n 0, 1), (278, .iload 4, 2), (280, .iconst 3, 1), (281, .iadd, 1), (282, .iaload, 1), (283, .aload_n 0, 1), (284, .iload 4, 2), (286, .iconst 4, 1), (287, .iadd, 1), (288, .iaload, 1), (289, .aload_n 0, 1), (290, .iload 4, 2), (292, .iconst 5, 1), (293, .iadd, 1), (294, .iaload, 1), (295, .aload_n 3, 1), (296, .invokestatic 158, 3), (299, .istore 5, 2), (301, .aload_n 2, 1), (302, .aload_n 0, 1), (303, .iload 4, 2), (305, .iconst 1, 1), (306, .iadd, 1), (307, .iaload, 1), (308, .aload_n 0, 1), (309, .iload 4, 2), (311, .iconst 2, 1), (312, .iadd, 1), (313, .iaload, 1), (314, .aload_n 0, 1), (315, .iload 4, 2), (317, .iconst 3, 1), (318, .iadd, 1), (319, .iaload, 1), (320, .aload_n 0, 1), (321, .iload 4, 2), (323, .iconst 4, 1), (324, .iadd, 1), (325, .iaload, 1), (326, .aload_n 0, 1), (327, .iload 4, 2), (329, .iconst 5, 1), (330, .iadd, 1), (331, .iaload, 1), (332, .invokevirtual 161, 3), (335, .istore 6, 2), (337, .goto 1575, 3)]
set_option maxRecDepth 100000 in
theorem DL_c1_ok : ∀ q ∈ DL_c1, decode cL_law q.1 = .ok q.2 := ck_list cL_bytes (t := 2) (r := SL_c1) (d := 264) rfl (by decide +kernel) (by decide +kernel)
def DL_c2 : List (Nat × Instr × Nat) := [(340, .aload_n 1, 1), (341, .aload_n 0, 1), (342, .iload 4, 2), (344, .iconst 1, 1), (345, .iadd, 1), (346, .iaload, 1), (347, .aload_n 0, 1), (348, .iload 4, 2), (350, .iconst 2, 1), (351, .iadd, 1), (352, .iaload, 1), (353, .aload_n 3, 1), (354, .invokestatic 162, 3), (357, .istore 5, 2), (359, .aload_n 2, 1), (360, .aload_n 0, 1), (361, .iload 4, 2), (363, .iconst 1, 1), (364, .iadd, 1), (365, .iaload, 1), (366, .aload_n 0, 1), (367, .iload 4, 2), (369, .iconst 2, 1), (370, .iadd, 1), (371, .iaload, 1), (372, .invokevirtual 164, 3), (375, .istore 6, 2), (377, .goto 1535, 3)]
set_option maxRecDepth 100000 in
theorem DL_c2_ok : ∀ q ∈ DL_c2, decode cL_law q.1 = .ok q.2 := ck_list cL_bytes (t := 3) (r := SL_c2) (d := 340) rfl (by decide +kernel) (by decide +kernel)
def DL_c3 : List (Nat × Instr × Nat) := [(380, .aload_n 1, 1), (381, .aload_n 0, 1), (382, .iload 4, 2), (384, .iconst 1, 1), (385, .iadd, 1), (386, .iaload, 1), (387, .aload_n 0, 1), (388, .iload 4, 2), (390, .iconst 2, 1), (391, .iadd, 1), (392, .iaload, 1), (393, .aload_n 3, 1), (394, .invokestatic 165, 3), (397, .istore 5, 2), (399, .aload_n 2, 1), (400, .aload_n 0, 1), (401, .iload 4, 2), (403, .iconst 1, 1), (404, .iadd, 1), (405, .iaload, 1), (406, .aload_n 0, 1), (407, .iload 4, 2), (409, .iconst 2, 1), (410, .iadd, 1), (411, .iaload, 1), (412, .invokevirtual 167, 3), (415, .istore 6, 2), (417, .goto 1495, 3)]
set_option maxRecDepth 100000 in
theorem DL_c3_ok : ∀ q ∈ DL_c3, decode cL_law q.1 = .ok q.2 := ck_list cL_bytes (t := 4) (r := SL_c3) (d := 380) rfl (by decide +kernel) (by decide +kernel)
def DL_c4 : List (Nat × Instr × Nat) := [(420, .aload_n 1, 1), (421, .aload_n 0, 1), (422, .iload 4, 2), (424, .iconst 1, 1), (425, .iadd, 1), (426, .iaload, 1), (427, .aload_n 0, 1), (428, .iload 4, 2), (430, .iconst 2, 1), (431, .iadd, 1), (432, .iaload, 1), (433, .aload_n 0, 1), (434, .iload 4, 2), (436, .iconst 3, 1), (437, .iadd, 1), (438, .iaload, 1), (439, .aload_n 3, 1), (440, .invokestatic 168, 3), (443, .istore 5, 2), (445, .aload_n 2, 1), (446, .aload_n 0, 1), (447, .iload 4, 2), (449, .iconst 1, 1), (450, .iadd, 1), (451, .iaload, 1), (452, .aload_n 0, 1), (453, .iload 4, 2), (455, .iconst 2, 1), (456, .iadd, 1), (457, .iaload, 1), (458, .aload_n 0, 1), (459, .iload 4, 2), (461, .iconst 3, 1), (462, .iadd, 1), (463, .iaload, 1), (464, .invokevirtual 171, 3), (467, .istore 6, 2), (469, .goto 1443, 3)]
set_option maxRecDepth 100000 in
theorem DL_c4_ok : ∀ q ∈ DL_c4, decode cL_law q.1 = .ok q.2 := ck_list cL_bytes (t := 5) (r := SL_c4) (d := 420) rfl (by decide +kernel) (by decide +kernel)
def DL_c5 : List (Nat × Instr × Nat) := [(472, .aload_n 1, 1), (473, .aload_n 0, 1), (474, .iload 4, 2), (476, .iconst 1, 1), (477, .iadd, 1), (478, .iaload, 1), (479, .aload_n 0, 1), (480, .iload 4, 2), (482, .iconst 2, 1), (483, .iadd, 1), (484, .iaload, 1), (485, .aload_n 0, 1), (486, .iload 4, 2), (488, .iconst 3, 1), (489, .iadd, 1), (490, .iaload, 1), (491, .aload_n 3, 1), (492, .invokestatic 172, 3), (495, .istore 5, 2), (497, .aload_n 2, 1), (498, .aload_n 0, 1), (499, .iload 4, 2), (501, .iconst 1, 1), (502, .iadd, 1), (503, .iaload, 1), (504, .aload_n 0, 1), (505, .iload 4, 2), (507, .iconst 2, 1), (508, .iadd, 1), (509, .iaload, 1), (510, .aload_n 0, 1), (511, .iload 4, 2), (513, .iconst 3, 1), (514, .iadd, 1), (515, .iaload, 1), (516, .invokevirtual 174, 3), (519, .istore 6, 2), (521, .goto 1391, 3)]
set_option maxRecDepth 100000 in
theorem DL_c5_ok : ∀ q ∈ DL_c5, decode cL_law q.1 = .ok q.2 := ck_list cL_bytes (t := 6) (r := SL_c5) (d := 472) rfl (by decide +kernel) (by decide +kernel)
def DL_c6 : List (Nat × Instr × Nat) := [(524, .aload_n 1, 1), (525, .aload_n 0, 1), (526, .iload 4, 2), (528, .iconst 1, 1), (529, .iadd, 1), (530, .iaload, 1), (531, .aload_n 0, 1), (532, .iload 4, 2), (534, .iconst 2, 1), (535, .iadd, 1), (536, .iaload, 1), (537, .aload_n 0, 1), (538, .iload 4, 2), (540, .iconst 3, 1), (541, .iadd, 1), (542, .iaload, 1), (543, .aload_n 3, 1), (544, .invokestatic 175, 3), (547, .istore 5, 2), (549, .aload_n 2, 1), (550, .aload_n 0, 1), (551, .iload 4, 2), (553, .iconst 1, 1), (554, .iadd, 1), (555, .iaload, 1), (556, .aload_n 0, 1), (557, .iload 4, 2), (559, .iconst 2, 1), (560, .iadd, 1), (561, .iaload, 1), (562, .aload_n 0, 1), (563, .iload 4, 2), (565, .iconst 3, 1), (566, .iadd, 1), (567, .iaload, 1), (568, .invokevirtual 177, 3), (571, .istore 6, 2), (573, .goto 1339, 3)]
set_option maxRecDepth 100000 in
theorem DL_c6_ok : ∀ q ∈ DL_c6, decode cL_law q.1 = .ok q.2 := ck_list cL_bytes (t := 7) (r := SL_c6) (d := 524) rfl (by decide +kernel) (by decide +kernel)
def DL_c7 : List (Nat × Instr × Nat) := [(576, .aload_n 1, 1), (577, .aload_n 0, 1), (578, .iload 4, 2), (580, .iconst 1, 1), (581, .iadd, 1), (582, .iaload, 1), (583, .aload_n 0, 1), (584, .iload 4, 2), (586, .iconst 2, 1), (587, .iadd, 1), (588, .iaload, 1), (589, .aload_n 3, 1), (590, .invokestatic 178, 3), (593, .istore 5, 2), (595, .aload_n 2, 1), (596, .aload_n 0, 1), (597, .iload 4, 2), (599, .iconst 1, 1), (600, .iadd, 1), (601, .iaload, 1), (602, .aload_n 0, 1), (603, .iload 4, 2), (605, .iconst 2, 1), (606, .iadd, 1), (607, .iaload, 1), (608, .invokevirtual 180, 3), (611, .istore 6, 2), (613, .goto 1299, 3)]
set_option maxRecDepth 100000 in
theorem DL_c7_ok : ∀ q ∈ DL_c7, decode cL_law q.1 = .ok q.2 := ck_list cL_bytes (t := 8) (r := SL_c7) (d := 576) rfl (by decide +kernel) (by decide +kernel)
def DL_c8 : List (Nat × Instr × Nat) := [(616, .aload_n 1, 1), (617, .aload_n 0, 1), (618, .iload 4, 2), (620, .iconst 1, 1), (621, .iadd, 1), (622, .iaload, 1), (623, .aload_n 3, 1), (624, .invokestatic 181, 3), (627, .istore 5, 2), (629, .aload_n 2, 1), (630, .aload_n 0, 1), (631, .iload 4, 2), (633, .iconst 1, 1), (634, .iadd, 1), (635, .iaload, 1), (636, .invokevirtual 184, 3), (639, .istore 6, 2), (641, .goto 1271, 3)]
set_option maxRecDepth 100000 in
theorem DL_c8_ok : ∀ q ∈ DL_c8, decode cL_law q.1 = .ok q.2 := ck_list cL_bytes (t := 9) (r := SL_c8) (d := 616) rfl (by decide +kernel) (by decide +kernel)
def DL_c9 : List (Nat × Instr × Nat) := [(644, .aload_n 1, 1), (645, .aload_n 0, 1), (646, .iload 4, 2), (648, .iconst 1, 1), (649, .iadd, 1), (650, .iaload, 1), (651, .aload_n 0, 1), (652, .iload 4, 2), (654, .iconst 2, 1), (655, .iadd, 1), (656, .iaload, 1), (657, .aload_n 0, 1), (658, .iload 4, 2), (660, .iconst 3, 1), (661, .iadd, 1), (662, .iaload, 1), (663, .aload_n 3, 1), (664, .invokestatic 185, 3), (667, .istore 5, 2), (669, .aload_n 2, 1), (670, .aload_n 0, 1), (671, .iload 4, 2), (673, .iconst 1, 1), (674, .iadd, 1), (675, .iaload, 1), (676, .aload_n 0, 1), (677, .iload 4, 2), (679, .iconst 2, 1), (680, .iadd, 1), (681, .iaload, 1), (682, .aload_n 0, 1), (683, .iload 4, 2), (685, .iconst 3, 1), (686, .iadd, 1), (687, .iaload, 1), (688, .invokevirtual 187, 3), (691, .istore 6, 2), (693, .goto 1219, 3)]
set_option maxRecDepth 100000 in
theorem DL_c9_ok : ∀ q ∈ DL_c9, decode cL_law q.1 = .ok q.2 := ck_list cL_bytes (t := 10) (r := SL_c9) (d := 644) rfl (by decide +kernel) (by decide +kernel)
def DL_c10 : List (Nat × Instr × Nat) := [(696, .aload_n 1, 1), (697, .aload_n 0, 1), (698, .iload 4, 2), (700, .iconst 1, 1), (701, .iadd, 1), (702, .iaload, 1), (703, .aload_n 0, 1), (704, .iload 4, 2), (706, .iconst 2, 1), (707, .iadd, 1), (708, .iaload, 1), (709, .aload_n 0, 1), (710, .iload 4, 2), (712, .iconst 3, 1), (713, .iadd, 1), (714, .iaload, 1), (715, .aload_n 3, 1), (716, .invokestatic 188, 3), (719, .istore 5, 2), (721, .aload_n 2, 1), (722, .aload_n 0, 1), (723, .iload 4, 2), (725, .iconst 1, 1), (726, .iadd, 1), (727, .iaload, 1), (728, .aload_n 0, 1), (729, .iload 4, 2), (731, .iconst 2, 1), (732, .iadd, 1), (733, .iaload, 1), (734, .aload_n 0, 1), (735, .iload 4, 2), (737, .iconst 3, 1), (738, .iadd, 1), (739, .iaload, 1), (740, .invokevirtual 190, 3), (743, .istore 6, 2), (745, .goto 1167, 3)]
set_option maxRecDepth 100000 in
theorem DL_c10_ok : ∀ q ∈ DL_c10, decode cL_law q.1 = .ok q.2 := ck_list cL_bytes (t := 11) (r := SL_c10) (d := 696) rfl (by decide +kernel) (by decide +kernel)
def DL_c11 : List (Nat × Instr × Nat) := [(748, .aload_n 1, 1), (749, .aload_n 0, 1), (750, .iload 4, 2), (752, .iconst 1, 1), (753, .iadd, 1), (754, .iaload, 1), (755, .aload_n 3, 1), (756, .invokestatic 191, 3), (759, .istore 5, 2), (761, .aload_n 2, 1), (762, .aload_n 0, 1), (763, .iload 4, 2), (765, .iconst 1, 1), (766, .iadd, 1), (767, .iaload, 1), (768, .invokevirtual 193, 3), (771, .istore 6, 2), (773, .goto 1139, 3)]
set_option maxRecDepth 100000 in
theorem DL_c11_ok : ∀ q ∈ DL_c11, decode cL_law q.1 = .ok q.2 := ck_list cL_bytes (t := 12) (r := SL_c11) (d := 748) rfl (by decide +kernel) (by decide +kernel)
def DL_c12 : List (Nat × Instr × Nat) := [(776, .aload_n 1, 1), (777, .aload_n 0, 1), (778, .iload 4, 2), (780, .iconst 1, 1), (781, .iadd, 1), (782, .iaload, 1), (783, .aload_n 0, 1), (784, .iload 4, 2), (786, .iconst 2, 1), (787, .iadd, 1), (788, .iaload, 1), (789, .aload_n 0, 1), (790, .iload 4, 2), (792, .iconst 3, 1), (793, .iadd, 1), (794, .iaload, 1), (795, .aload_n 3, 1), (796, .invokestatic 194, 3), (799, .istore 5, 2), (801, .aload_n 2, 1), (802, .aload_n 0, 1), (803, .iload 4, 2), (805, .iconst 1, 1), (806, .iadd, 1), (807, .iaload, 1), (808, .aload_n 0, 1), (809, .iload 4, 2), (811, .iconst 2, 1), (812, .iadd, 1), (813, .iaload, 1), (814, .aload_n 0, 1), (815, .iload 4, 2), (817, .iconst 3, 1), (818, .iadd, 1), (819, .iaload, 1), (820, .invokevirtual 196, 3), (823, .istore 6, 2), (825, .goto 1087, 3)]
set_option maxRecDepth 100000 in
theorem DL_c12_ok : ∀ q ∈ DL_c12, decode cL_law q.1 = .ok q.2 := ck_list cL_bytes (t := 13) (r := SL_c12) (d := 776) rfl (by decide +kernel) (by decide +kernel)
def DL_c13 : List (Nat × Instr × Nat) := [(828, .aload_n 1, 1), (829, .aload_n 0, 1), (830, .iload 4, 2), (832, .iconst 1, 1), (833, .iadd, 1), (834, .iaload, 1), (835, .aload_n 0, 1), (836, .iload 4, 2), (838, .iconst 2, 1), (839, .iadd, 1), (840, .iaload, 1), (841, .aload_n 3, 1), (842, .invokestatic 197, 3), (845, .istore 5, 2), (847, .aload_n 2, 1), (848, .aload_n 0, 1), (849, .iload 4, 2), (851, .iconst 1, 1), (852, .iadd, 1), (853, .iaload, 1), (854, .aload_n 0, 1), (855, .iload 4, 2), (857, .iconst 2, 1), (858, .iadd, 1), (859, .iaload, 1), (860, .invokevirtual 199, 3), (863, .istore 6, 2), (865, .goto 1047, 3)]
set_option maxRecDepth 100000 in
theorem DL_c13_ok : ∀ q ∈ DL_c13, decode cL_law q.1 = .ok q.2 := ck_list cL_bytes (t := 14) (r := SL_c13) (d := 828) rfl (by decide +kernel) (by decide +kernel)
def DL_c14 : List (Nat × Instr × Nat) := [(868, .aload_n 1, 1), (869, .aload_n 0, 1), (870, .iload 4, 2), (872, .iconst 1, 1), (873, .iadd, 1), (874, .iaload, 1), (875, .aload_n 0, 1), (876, .iload 4, 2), (878, .iconst 2, 1), (879, .iadd, 1), (880, .iaload, 1), (881, .aload_n 0, 1), (882, .iload 4, 2), (884, .iconst 3, 1), (885, .iadd, 1), (886, .iaload, 1), (887, .aload_n 3, 1), (888, .invokestatic 200, 3), (891, .istore 5, 2), (893, .aload_n 2, 1), (894, .aload_n 0, 1), (895, .iload 4, 2), (897, .iconst 1, 1), (898, .iadd, 1), (899, .iaload, 1), (900, .aload_n 0, 1), (901, .iload 4, 2), (903, .iconst 2, 1), (904, .iadd, 1), (905, .iaload, 1), (906, .aload_n 0, 1), (907, .iload 4, 2), (909, .iconst 3, 1), (910, .iadd, 1), (911, .iaload, 1), (912, .invokevirtual 202, 3), (915, .istore 6, 2), (917, .goto 995, 3)]
set_option maxRecDepth 100000 in
theorem DL_c14_ok : ∀ q ∈ DL_c14, decode cL_law q.1 = .ok q.2 := ck_list cL_bytes (t := 15) (r := SL_c14) (d := 868) rfl (by decide +kernel) (by decide +kernel)
def DL_c15 : List (Nat × Instr × Nat) := [(920, .aload_n 1, 1), (921, .aload_n 0, 1), (922, .iload 4, 2), (924, .iconst 1, 1), (925, .iadd, 1), (926, .iaload, 1), (927, .aload_n 0, 1), (928, .iload 4, 2), (930, .iconst 2, 1), (931, .iadd, 1), (932, .iaload, 1), (933, .aload_n 0, 1), (934, .iload 4, 2), (936, .iconst 3, 1), (937, .iadd, 1), (938, .iaload, 1), (939, .aload_n 0, 1), (940, .iload 4, 2), (942, .iconst 4, 1), (943, .iadd, 1), (944, .iaload, 1), (945, .aload_n 3, 1), (946, .invokestatic 203, 3), (949, .istore 5, 2), (951, .aload_n 2, 1), (952, .aload_n 0, 1), (953, .iload 4, 2), (955, .iconst 1, 1), (956, .iadd, 1), (957, .iaload, 1), (958, .aload_n 0, 1), (959, .iload 4, 2), (961, .iconst 2, 1), (962, .iadd, 1), (963, .iaload, 1), (964, .aload_n 0, 1), (965, .iload 4, 2), (967, .iconst 3, 1), (968, .iadd, 1), (969, .iaload, 1), (970, .aload_n 0, 1), (971, .iload 4, 2), (973, .iconst 4, 1), (974, .iadd, 1), (975, .iaload, 1), (976, .invokevirtual 206, 3), (979, .istore 6, 2), (981, .goto 931, 3)]
set_option maxRecDepth 100000 in
theorem DL_c15_ok : ∀ q ∈ DL_c15, decode cL_law q.1 = .ok q.2 := ck_list cL_bytes (t := 16) (r := SL_c15) (d := 920) rfl (by decide +kernel) (by decide +kernel)
def DL_c16 : List (Nat × Instr × Nat) := [(984, .aload_n 1, 1), (985, .aload_n 0, 1), (986, .iload 4, 2), (988, .iconst 1, 1), (989, .iadd, 1), (990, .iaload, 1), (991, .aload_n 0, 1), (992, .iload 4, 2), (994, .iconst 2, 1), (995, .iadd, 1), (996, .iaload, 1), (997, .aload_n 0, 1), (998, .iload 4, 2), (1000, .iconst 3, 1), (1001, .iadd, 1), (1002, .iaload, 1), (1003, .aload_n 3, 1), (1004, .invokestatic 207, 3), (1007, .istore 5, 2), (1009, .aload_n 2, 1), (1010, .aload_n 0, 1), (1011, .iload 4, 2), (1013, .iconst 1, 1), (1014, .iadd, 1), (1015, .iaload, 1), (1016, .aload_n 0, 1), (1017, .iload 4, 2), (1019, .iconst 2, 1), (1020, .iadd, 1), (1021, .iaload, 1), (1022, .aload_n 0, 1), (1023, .iload 4, 2), (1025, .iconst 3, 1), (1026, .iadd, 1), (1027, .iaload, 1), (1028, .invokevirtual 209, 3), (1031, .istore 6, 2), (1033, .goto 879, 3)]
set_option maxRecDepth 100000 in
theorem DL_c16_ok : ∀ q ∈ DL_c16, decode cL_law q.1 = .ok q.2 := ck_list cL_bytes (t := 17) (r := SL_c16) (d := 984) rfl (by decide +kernel) (by decide +kernel)
def DL_c17 : List (Nat × Instr × Nat) := [(1036, .aload_n 1, 1), (1037, .aload_n 0, 1), (1038, .iload 4, 2), (1040, .iconst 1, 1), (1041, .iadd, 1), (1042, .iaload, 1), (1043, .aload_n 3, 1), (1044, .invokestatic 210, 3), (1047, .istore 5, 2), (1049, .aload_n 2, 1), (1050, .aload_n 0, 1), (1051, .iload 4, 2), (1053, .iconst 1, 1), (1054, .iadd, 1), (1055, .iaload, 1), (1056, .invokevirtual 212, 3), (1059, .astore 6, 2), (1061, .goto 851, 3)]
set_option maxRecDepth 100000 in
theorem DL_c17_ok : ∀ q ∈ DL_c17, decode cL_law q.1 = .ok q.2 := ck_list cL_bytes (t := 18) (r := SL_c17) (d := 1036) rfl (by decide +kernel) (by decide +kernel)
def DL_c18 : List (Nat × Instr × Nat) := [(1064, .aload_n 1, 1), (1065, .aload_n 0, 1), (1066, .iload 4, 2), (1068, .iconst 1, 1), (1069, .iadd, 1), (1070, .iaload, 1), (1071, .aload_n 3, 1), (1072, .invokestatic 213, 3), (1075, .istore 5, 2), (1077, .aload_n 2, 1), (1078, .aload_n 0, 1), (1079, .iload 4, 2), (1081, .iconst 1, 1), (1082, .iadd, 1), (1083, .iaload, 1), (1084, .invokevirtual 215, 3), (1087, .istore 6, 2), (1089, .goto 823, 3)]
set_option maxRecDepth 100000 in
theorem DL_c18_ok : ∀ q ∈ DL_c18, decode cL_law q.1 = .ok q.2 := ck_list cL_bytes (t := 19) (r := SL_c18) (d := 1064) rfl (by decide +kernel) (by decide +kernel)
def DL_c19 : List (Nat × Instr × Nat) := [(1092, .aload_n 1, 1), (1093, .aload_n 0, 1), (1094, .iload 4, 2), (1096, .iconst 1, 1), (1097, .iadd, 1), (1098, .iaload, 1), (1099, .aload_n 3, 1), (1100, .invokestatic 216, 3), (1103, .istore 5, 2), (1105, .aload_n 2, 1), (1106, .aload_n 0, 1), (1107, .iload 4, 2), (1109, .iconst 1, 1), (1110, .iadd, 1), (1111, .iaload, 1), (1112, .invokevirtual 218, 3), (1115, .istore 6, 2), (1117, .goto 795, 3)]
set_option maxRecDepth 100000 in
theorem DL_c19_ok : ∀ q ∈ DL_c19, decode cL_law q.1 = .ok q.2 := ck_list cL_bytes (t := 20) (r := SL_c19) (d := 1092) rfl (by decide +kernel) (by decide +kernel)
def DL_c20 : List (Nat × Instr × Nat) := [(1120, .aload_n 1, 1), (1121, .aload_n 0, 1), (1122, .iload 4, 2), (1124, .iconst 1, 1), (1125, .iadd, 1), (1126, .iaload, 1), (1127, .aload_n 3, 1), (1128, .invokestatic 219, 3), (1131, .istore 5, 2), (1133, .aload_n 2, 1), (1134, .aload_n 0, 1), (1135, .iload 4, 2), (1137, .iconst 1, 1), (1138, .iadd, 1), (1139, .iaload, 1), (1140, .invokevirtual 221, 3), (1143, .istore 6, 2), (1145, .goto 767, 3)]
set_option maxRecDepth 100000 in
theorem DL_c20_ok : ∀ q ∈ DL_c20, decode cL_law q.1 = .ok q.2 := ck_list cL_bytes (t := 21) (r := SL_c20) (d := 1120) rfl (by decide +kernel) (by decide +kernel)
def DL_c21 : List (Nat × Instr × Nat) := [(1148, .aload_n 1, 1), (1149, .aload_n 0, 1), (1150, .iload 4, 2), (1152, .iconst 1, 1), (1153, .iadd, 1), (1154, .iaload, 1), (1155, .aload_n 0, 1), (1156, .iload 4, 2), (1158, .iconst 2, 1), (1159, .iadd, 1), (1160, .iaload, 1), (1161, .aload_n 3, 1), (1162, .invokestatic 222, 3), (1165, .istore 5, 2), (1167, .aload_n 2, 1), (1168, .aload_n 0, 1), (1169, .iload 4, 2), (1171, .iconst 1, 1), (1172, .iadd, 1), (1173, .iaload, 1), (1174, .aload_n 0, 1), (1175, .iload 4, 2), (1177, .iconst 2, 1), (1178, .iadd, 1), (1179, .iaload, 1), (1180, .invokevirtual 224, 3), (1183, .istore 6, 2), (1185, .goto 727, 3)]
set_option maxRecDepth 100000 in
theorem DL_c21_ok : ∀ q ∈ DL_c21, decode cL_law q.1 = .ok q.2 := ck_list cL_bytes (t := 22) (r := SL_c21) (d := 1148) rfl (by decide +kernel) (by decide +kernel)
def DL_c22 : List (Nat × Instr × Nat) := [(1188, .aload_n 1, 1), (1189, .aload_n 0, 1), (1190, .iload 4, 2), (1192, .iconst 1, 1), (1193, .iadd, 1), (1194, .iaload, 1), (1195, .aload_n 0, 1), (1196, .iload 4, 2), (1198, .iconst 2, 1), (1199, .iadd, 1), (1200, .iaload, 1), (1201, .aload_n 3, 1), (1202, .invokestatic 225, 3), (1205, .istore 5, 2), (1207, .aload_n 2, 1), (1208, .aload_n 0, 1), (1209, .iload 4, 2), (1211, .iconst 1, 1), (1212, .iadd, 1), (1213, .iaload, 1), (1214, .aload_n 0, 1), (1215, .iload 4, 2), (1217, .iconst 2, 1), (1218, .iadd, 1), (1219, .iaload, 1), (1220, .invokevirtual 227, 3), (1223, .istore 6, 2), (1225, .goto 687, 3)]
set_option maxRecDepth 100000 in
theorem DL_c22_ok : ∀ q ∈ DL_c22, decode cL_law q.1 = .ok q.2 := ck_list cL_bytes (t := 23) (r := SL_c22) (d := 1188) rfl (by decide +kernel) (by decide +kernel)
def DL_c23 : List (Nat × Instr × Nat) := [(1228, .aload_n 1, 1), (1229, .aload_n 0, 1), (1230, .iload 4, 2), (1232, .iconst 1, 1), (1233, .iadd, 1), (1234, .iaload, 1), (1235, .aload_n 0, 1), (1236, .iload 4, 2), (1238, .iconst 2, 1), (1239, .iadd, 1), (1240, .iaload, 1), (1241, .aload_n 3, 1), (1242, .invokestatic 228, 3), (1245, .istore 5, 2), (1247, .aload_n 2, 1), (1248, .aload_n 0, 1), (1249, .iload 4, 2), (1251, .iconst 1, 1), (1252, .iadd, 1), (1253, .iaload, 1), (1254, .aload_n 0, 1), (1255, .iload 4, 2), (1257, .iconst 2, 1), (1258, .iadd, 1), (1259, .iaload, 1), (1260, .invokevirtual 230, 3), (1263, .istore 6, 2), (1265, .goto 647, 3)]
set_option maxRecDepth 100000 in
theorem DL_c23_ok : ∀ q ∈ DL_c23, decode cL_law q.1 = .ok q.2 := ck_list cL_bytes (t := 24) (r := SL_c23) (d := 1228) rfl (by decide +kernel) (by decide +kernel)
def DL_c24 : List (Nat × Instr × Nat) := [(1268, .aload_n 1, 1), (1269, .aload_n 0, 1), (1270, .iload 4, 2), (1272, .iconst 1, 1), (1273, .iadd, 1), (1274, .iaload, 1), (1275, .aload_n 3, 1), (1276, .invokestatic 231, 3), (1279, .istore 5, 2), (1281, .aload_n 2, 1), (1282, .aload_n 0, 1), (1283, .iload 4, 2), (1285, .iconst 1, 1), (1286, .iadd, 1), (1287, .iaload, 1), (1288, .invokevirtual 233, 3), (1291, .istore 6, 2), (1293, .goto 619, 3)]
set_option maxRecDepth 100000 in
theorem DL_c24_ok : ∀ q ∈ DL_c24, decode cL_law q.1 = .ok q.2 := ck_list cL_bytes (t := 25) (r := SL_c24) (d := 1268) rfl (by decide +kernel) (by decide +kernel)
def DL_c25 : List (Nat × Instr × Nat) := [(1296, .aload_n 1, 1), (1297, .aload_n 0, 1), (1298, .iload 4, 2), (1300, .iconst 1, 1), (1301, .iadd, 1), (1302, .iaload, 1), (1303, .aload_n 0, 1), (1304, .iload 4, 2), (1306, .iconst 2, 1), (1307, .iadd, 1), (1308, .iaload, 1), (1309, .aload_n 3, 1), (1310, .invokestatic 234, 3), (1313, .istore 5, 2), (1315, .aload_n 2, 1), (1316, .aload_n 0, 1), (1317, .iload 4, 2), (1319, .iconst 1, 1), (1320, .iadd, 1), (1321, .iaload, 1), (1322, .aload_n 0, 1), (1323, .iload 4, 2), (1325, .iconst 2, 1), (1326, .iadd, 1), (1327, .iaload, 1), (1328, .invokevirtual 236, 3), (1331, .istore 6, 2), (1333, .goto 579, 3)]
set_option maxRecDepth 100000 in
theorem DL_c25_ok : ∀ q ∈ DL_c25, decode cL_law q.1 = .ok q.2 := ck_list cL_bytes (t := 26) (r := SL_c25) (d := 1296) rfl (by decide +kernel) (by decide +kernel)
def DL_c26 : List (Nat × Instr × Nat) := [(1336, .aload_n 1, 1), (1337, .aload_n 0, 1), (1338, .iload 4, 2), (1340, .iconst 1, 1), (1341, .iadd, 1), (1342, .iaload, 1), (1343, .aload_n 0, 1), (1344, .iload 4, 2), (1346, .iconst 2, 1), (1347, .iadd, 1), (1348, .iaload, 1), (1349, .aload_n 3, 1), (1350, .invokestatic 237, 3), (1353, .istore 5, 2), (1355, .aload_n 2, 1), (1356, .aload_n 0, 1), (1357, .iload 4, 2), (1359, .iconst 1, 1), (1360, .iadd, 1), (1361, .iaload, 1), (1362, .aload_n 0, 1), (1363, .iload 4, 2), (1365, .iconst 2, 1), (1366, .iadd, 1), (1367, .iaload, 1), (1368, .invokevirtual 239, 3), (1371, .istore 6, 2), (1373, .goto 539, 3)]
set_option maxRecDepth 100000 in
theorem DL_c26_ok : ∀ q ∈ DL_c26, decode cL_law q.1 = .ok q.2 := ck_list cL_bytes (t := 27) (r := SL_c26) (d := 1336) rfl (by decide +kernel) (by decide +kernel)
def DL_c27 : List (Nat × Instr × Nat) := [(1376, .aload_n 1, 1), (1377, .aload_n 0, 1), (1378, .iload 4, 2), (1380, .iconst 1, 1), (1381, .iadd, 1), (1382, .iaload, 1), (1383, .aload_n 0, 1), (1384, .iload 4, 2), (1386, .iconst 2, 1), (1387, .iadd, 1), (1388, .iaload, 1), (1389, .aload_n 0, 1), (1390, .iload 4, 2), (1392, .iconst 3, 1), (1393, .iadd, 1), (1394, .iaload, 1), (1395, .aload_n 3, 1), (1396, .invokestatic 240, 3), (1399, .istore 5, 2), (1401, .aload_n 2, 1), (1402, .aload_n 0, 1), (1403, .iload 4, 2), (1405, .iconst 1, 1), (1406, .iadd, 1), (1407, .iaload, 1), (1408, .aload_n 0, 1), (1409, .iload 4, 2), (1411, .iconst 2, 1), (1412, .iadd, 1), (1413, .iaload, 1), (1414, .aload_n 0, 1), (1415, .iload 4, 2), (1417, .iconst 3, 1), (1418, .iadd, 1), (1419, .iaload, 1), (1420, .invokevirtual 242, 3), (1423, .istore 6, 2), (1425, .goto 487, 3)]
set_option maxRecDepth 100000 in
theorem DL_c27_ok : ∀ q ∈ DL_c27, decode cL_law q.1 = .ok q.2 := ck_list cL_bytes (t := 28) (r := SL_c27) (d := 1376) rfl (by decide +kernel) (by decide +kernel)
def DL_c28 : List (Nat × Instr × Nat) := [(1428, .aload_n 1, 1), (1429, .aload_n 0, 1), (1430, .iload 4, 2), (1432, .iconst 1, 1), (1433, .iadd, 1), (1434, .iaload, 1), (1435, .aload_n 0, 1), (1436, .iload 4, 2), (1438, .iconst 2, 1), (1439, .iadd, 1), (1440, .iaload, 1), (1441, .aload_n 0, 1), (1442, .iload 4, 2), (1444, .iconst 3, 1), (1445, .iadd, 1), (1446, .iaload, 1), (1447, .aload_n 3, 1), (1448, .invokestatic 243, 3), (1451, .istore 5, 2), (1453, .aload_n 2, 1), (1454, .aload_n 0, 1), (1455, .iload 4, 2), (1457, .iconst 1, 1), (1458, .iadd, 1), (1459, .iaload, 1), (1460, .aload_n 0, 1), (1461, .iload 4, 2), (1463, .iconst 2, 1), (1464, .iadd, 1), (1465, .iaload, 1), (1466, .aload_n 0, 1), (1467, .iload 4, 2), (1469, .iconst 3, 1), (1470, .iadd, 1), (1471, .iaload, 1), (1472, .invokevirtual 245, 3), (1475, .istore 6, 2), (1477, .goto 435, 3)]
set_option maxRecDepth 100000 in
theorem DL_c28_ok : ∀ q ∈ DL_c28, decode cL_law q.1 = .ok q.2 := ck_list cL_bytes (t := 29) (r := SL_c28) (d := 1428) rfl (by decide +kernel) (by decide +kernel)
def DL_c29 : List (Nat × Instr × Nat) := [(1480, .aload_n 1, 1), (1481, .aload_n 0, 1), (1482, .iload 4, 2), (1484, .iconst 1, 1), (1485, .iadd, 1), (1486, .iaload, 1), (1487, .aload_n 0, 1), (1488, .iload 4, 2), (1490, .iconst 2, 1), (1491, .iadd, 1), (1492, .iaload, 1), (1493, .aload_n 3, 1), (1494, .invokestatic 246, 3), (1497, .istore 5, 2), (1499, .aload_n 2, 1), (1500, .aload_n 0, 1), (1501, .iload 4, 2), (1503, .iconst 1, 1), (1504, .iadd, 1), (1505, .iaload, 1), (1506, .aload_n 0, 1), (1507, .iload 4, 2), (1509, .iconst 2, 1), (1510, .iadd, 1), (1511, .iaload, 1), (1512, .invokevirtual 248, 3), (1515, .istore 6, 2), (1517, .goto 395, 3)]
set_option maxRecDepth 100000 in
theorem DL_c29_ok : ∀ q ∈ DL_c29, decode cL_law q.1 = .ok q.2 := ck_list cL_bytes (t := 30) (r := SL_c29) (d := 1480) rfl (by decide +kernel) (by decide +kernel)
def DL_c30 : List (Nat × Instr × Nat) := [(1520, .aload_n 1, 1), (1521, .aload_n 0, 1), (1522, .iload 4, 2), (1524, .iconst 1, 1), (1525, .iadd, 1), (1526, .iaload, 1), (1527, .aload_n 0, 1), (1528, .iload 4, 2), (1530, .iconst 2, 1), (1531, .iadd, 1), (1532, .iaload, 1), (1533, .aload_n 3, 1), (1534, .invokestatic 249, 3), (1537, .istore 5, 2), (1539, .aload_n 2, 1), (1540, .aload_n 0, 1), (1541, .iload 4, 2), (1543, .iconst 1, 1), (1544, .iadd, 1), (1545, .iaload, 1), (1546, .aload_n 0, 1), (1547, .iload 4, 2), (1549, .iconst 2, 1), (1550, .iadd, 1), (1551, .iaload, 1), (1552, .invokevirtual 251, 3), (1555, .istore 6, 2), (1557, .goto 355, 3)]
set_option maxRecDepth 100000 in
theorem DL_c30_ok : ∀ q ∈ DL_c30, decode cL_law q.1 = .ok q.2 := ck_list cL_bytes (t := 31) (r := SL_c30) (d := 1520) rfl (by decide +kernel) (by decide +kernel)
def DL_c31 : List (Nat × Instr × Nat) := [(1560, .aload_n 1, 1), (1561, .aload_n 0, 1), (1562, .iload 4, 2), (1564, .iconst 1, 1), (1565, .iadd, 1), (1566, .iaload, 1), (1567, .aload_n 0, 1), (1568, .iload 4, 2), (1570, .iconst 2, 1), (1571, .iadd, 1), (1572, .iaload, 1), (1573, .aload_n 3, 1), (1574, .invokestatic 252, 3), (1577, .istore 5, 2), (1579, .aload_n 2, 1), (1580, .aload_n 0, 1), (1581, .iload 4, 2), (1583, .iconst 1, 1), (1584, .iadd, 1), (1585, .iaload, 1), (1586, .aload_n 0, 1), (1587, .iload 4, 2), (1589, .iconst 2, 1), (1590, .iadd, 1), (1591, .iaload, 1), (1592, .invokevirtual 254, 3), (1595, .astore 6, 2), (1597, .goto 315, 3)]
set_option maxRecDepth 100000 in
theorem DL_c31_ok : ∀ q ∈ DL_c31, decode cL_law q.1 = .ok q.2 := ck_list cL_bytes (t := 32) (r := SL_c31) (d := 1560) rfl (by decide +kernel) (by decide +kernel)
def DL_c32 : List (Nat × Instr × Nat) := [(1600, .aload_n 1, 1), (1601, .aload_n 0, 1), (1602, .iload 4, 2), (1604, .iconst 1, 1), (1605, .iadd, 1), (1606, .iaload, 1), (1607, .aload_n 3, 1), (1608, .invokestatic 255, 3), (1611, .istore 5, 2), (1613, .aload_n 2, 1), (1614, .aload_n 0, 1), (1615, .iload 4, 2), (1617, .iconst 1, 1), (1618, .iadd, 1), (1619, .iaload, 1), (1620, .invokevirtual 257, 3), (1623, .istore 6, 2), (1625, .goto 287, 3)]
set_option maxRecDepth 100000 in
theorem DL_c32_ok : ∀ q ∈ DL_c32, decode cL_law q.1 = .ok q.2 := ck_list cL_bytes (t := 33) (r := SL_c32) (d := 1600) rfl (by decide +kernel) (by decide +kernel)
def DL_c33 : List (Nat × Instr × Nat) := [(1628, .aload_n 1, 1), (1629, .aload_n 0, 1), (1630, .iload 4, 2), (1632, .iconst 1, 1), (1633, .iadd, 1), (1634, .iaload, 1), (1635, .aload_n 0, 1), (1636, .iload 4, 2), (1638, .iconst 2, 1), (1639, .iadd, 1), (1640, .iaload, 1), (1641, .aload_n 0, 1), (1642, .iload 4, 2), (1644, .iconst 3, 1), (1645, .iadd, 1), (1646, .iaload, 1), (1647, .aload_n 3, 1), (1648, .invokestatic 258, 3), (1651, .istore 5, 2), (1653, .aload_n 2, 1), (1654, .aload_n 0, 1), (1655, .iload 4, 2), (1657, .iconst 1, 1), (1658, .iadd, 1), (1659, .iaload, 1), (1660, .aload_n 0, 1), (1661, .iload 4, 2), (1663, .iconst 2, 1), (1664, .iadd, 1), (1665, .iaload, 1), (1666, .aload_n 0, 1), (1667, .iload 4, 2), (1669, .iconst 3, 1), (1670, .iadd, 1), (1671, .iaload, 1), (1672, .invokevirtual 260, 3), (1675, .istore 6, 2), (1677, .goto 235, 3)]
set_option maxRecDepth 100000 in
theorem DL_c33_ok : ∀ q ∈ DL_c33, decode cL_law q.1 = .ok q.2 := ck_list cL_bytes (t := 34) (r := SL_c33) (d := 1628) rfl (by decide +kernel) (by decide +kernel)
def DL_c34 : List (Nat × Instr × Nat) := [(1680, .aload_n 1, 1), (1681, .aload_n 0, 1), (1682, .iload 4, 2), (1684, .iconst 1, 1), (1685, .iadd, 1), (1686, .iaload, 1), (1687, .aload_n 0, 1), (1688, .iload 4, 2), (1690, .iconst 2, 1), (1691, .iadd, 1), (1692, .iaload, 1), (1693, .aload_n 3, 1), (1694, .invokestatic 261, 3), (1697, .istore 5, 2), (1699, .aload_n 2, 1), (1700, .aload_n 0, 1), (1701, .iload 4, 2), (1703, .iconst 1, 1), (1704, .iadd, 1), (1705, .iaload, 1), (1706, .aload_n 0, 1), (1707, .iload 4, 2), (1709, .iconst 2, 1), (1710, .iadd, 1), (1711, .iaload, 1), (1712, .invokevirtual 263, 3), (1715, .istore 6, 2), (1717, .goto 195, 3)]
set_option maxRecDepth 100000 in
theorem DL_c34_ok : ∀ q ∈ DL_c34, decode cL_law q.1 = .ok q.2 := ck_list cL_bytes (t := 35) (r := SL_c34) (d := 1680) rfl (by decide +kernel) (by decide +kernel)
def DL_c35 : List (Nat × Instr × Nat) := [(1720, .aload_n 1, 1), (1721, .aload_n 0, 1), (1722, .iload 4, 2), (1724, .iconst 1, 1), (1725, .iadd, 1), (1726, .iaload, 1), (1727, .aload_n 0, 1), (1728, .iload 4, 2), (1730, .iconst 2, 1), (1731, .iadd, 1), (1732, .iaload, 1), (1733, .aload_n 3, 1), (1734, .invokestatic 264, 3), (1737, .istore 5, 2), (1739, .aload_n 2, 1), (1740, .aload_n 0, 1), (1741, .iload 4, 2), (1743, .iconst 1, 1), (1744, .iadd, 1), (1745, .iaload, 1), (1746, .aload_n 0, 1), (1747, .iload 4, 2), (1749, .iconst 2, 1), (1750, .iadd, 1), (1751, .iaload, 1), (1752, .invokevirtual 266, 3), (1755, .istore 6, 2), (1757, .aload_n 2, 1), (1758, .invokevirtual 267, 3), (1761, .iload 5, 2), (1763, .if_icmp .eq 5, 3), (1766, .iconst 0, 1), (1767, .ireturn, 1), (1768, .iload 5, 2), (1770, .ifCond .ne 16, 3), (1773, .aload_n 3, 1), (1774, .getfield 13, 3), (1777, .iload 6, 2), (1779, .i2l, 1), (1780, .lcmp, 1), (1781, .ifCond .eq 5, 3), (1784, .iconst 0, 1), (1785, .ireturn, 1), (1786, .goto 126, 3)]
set_option maxRecDepth 100000 in
theorem DL_c35_ok : ∀ q ∈ DL_c35, decode cL_law q.1 = .ok q.2 := ck_list cL_bytes (t := 36) (r := SL_c35) (d := 1720) rfl (by decide +kernel) (by decide +kernel)
def DL_c36 : List (Nat × Instr × Nat) := [(1789, .aload_n 1, 1), (1790, .aload_n 0, 1), (1791, .iload 4, 2), (1793, .iconst 1, 1), (1794, .iadd, 1), (1795, .iaload, 1), (1796, .aload_n 0, 1), (1797, .iload 4, 2), (1799, .iconst 2, 1), (1800, .iadd, 1), (1801, .iaload, 1), (1802, .ifCond .eq 7, 3), (1805, .iconst 1, 1), (1806, .goto 4, 3), (1809, .iconst 0, 1), (1810, .aload_n 3, 1), (1811, .invokestatic 271, 3), (1814, .istore 5, 2), (1816, .aload_n 2, 1), (1817, .aload_n 0, 1), (1818, .iload 4, 2), (1820, .iconst 1, 1), (1821, .iadd, 1), (1822, .iaload, 1), (1823, .aload_n 0, 1), (1824, .iload 4, 2), (1826, .iconst 2, 1), (1827, .iadd, 1), (1828, .iaload, 1), (1829, .ifCond .eq 7, 3), (1832, .iconst 1, 1), (1833, .goto 4, 3), (1836, .iconst 0, 1), (1837, .invokevirtual 274, 3), (1840, .istore 6, 2), (1842, .goto 70, 3)]
set_option maxRecDepth 100000 in
theorem DL_c36_ok : ∀ q ∈ DL_c36, decode cL_law q.1 = .ok q.2 := ck_list cL_bytes (t := 37) (r := SL_c36) (d := 1789) rfl (by decide +kernel) (by decide +kernel)
def DL_c37 : List (Nat × Instr × Nat) := [(1845, .aload_n 1, 1), (1846, .aload_n 0, 1), (1847, .iload 4, 2), (1849, .iconst 1, 1), (1850, .iadd, 1), (1851, .iaload, 1), (1852, .aload_n 3, 1), (1853, .invokestatic 275, 3), (1856, .istore 5, 2), (1858, .aload_n 2, 1), (1859, .aload_n 0, 1), (1860, .iload 4, 2), (1862, .iconst 1, 1), (1863, .iadd, 1), (1864, .iaload, 1), (1865, .invokevirtual 277, 3), (1868, .istore 6, 2), (1870, .goto 42, 3)]
set_option maxRecDepth 100000 in
theorem DL_c37_ok : ∀ q ∈ DL_c37, decode cL_law q.1 = .ok q.2 := ck_list cL_bytes (t := 38) (r := SL_c37) (d := 1845) rfl (by decide +kernel) (by decide +kernel)
def DL_c38 : List (Nat × Instr × Nat) := [(1873, .aload_n 1, 1), (1874, .invokevirtual 278, 3), (1877, .pop, 1), (1878, .aload_n 2, 1), (1879, .invokevirtual 281, 3), (1882, .pop, 1), (1883, .goto 29, 3)]
set_option maxRecDepth 100000 in
theorem DL_c38_ok : ∀ q ∈ DL_c38, decode cL_law q.1 = .ok q.2 := ck_list cL_bytes (t := 39) (r := SL_c38) (d := 1873) rfl (by decide +kernel) (by decide +kernel)
def DL_c39 : List (Nat × Instr × Nat) := [(1886, .aload_n 1, 1), (1887, .invokevirtual 282, 3), (1890, .pop, 1), (1891, .aload_n 2, 1), (1892, .invokevirtual 286, 3), (1895, .pop, 1), (1896, .goto 16, 3)]
set_option maxRecDepth 100000 in
theorem DL_c39_ok : ∀ q ∈ DL_c39, decode cL_law q.1 = .ok q.2 := ck_list cL_bytes (t := 40) (r := SL_c39) (d := 1886) rfl (by decide +kernel) (by decide +kernel)
def DL_c40 : List (Nat × Instr × Nat) := [(1899, .aload_n 1, 1), (1900, .invokevirtual 287, 3), (1903, .pop2, 1), (1904, .aload_n 2, 1), (1905, .invokevirtual 291, 3), (1908, .pop2, 1), (1909, .goto 3, 3)]
set_option maxRecDepth 100000 in
theorem DL_c40_ok : ∀ q ∈ DL_c40, decode cL_law q.1 = .ok q.2 := ck_list cL_bytes (t := 41) (r := SL_c40) (d := 1899) rfl (by decide +kernel) (by decide +kernel)
def DL_z : List (Nat × Instr × Nat) := [(1912, .iinc 4 6, 3), (1915, .goto (-1888), 3), (1918, .iconst 1, 1), (1919, .ireturn, 1)]
set_option maxRecDepth 100000 in
theorem DL_z_ok : ∀ q ∈ DL_z, decode cL_law q.1 = .ok q.2 := ck_list cL_bytes (t := 42) (r := SL_z) (d := 1912) rfl (by decide +kernel) (by decide +kernel)
def DX7_init : List (Nat × Instr × Nat) := [(0, .aload_n 0, 1), (1, .invokespecial 1, 3), (4, .return_, 1)]
set_option maxRecDepth 100000 in
theorem DX7_init_ok : ∀ q ∈ DX7_init, decode cX7_init q.1 = .ok q.2 := ck_ok (by decide +kernel)
end Ug01codeL
section Ug02linkL
/-! words of the law (printed by wip/p40/genL1.py) -/
set_option maxRecDepth 100000 in
theorem liL : Cond.initialized RL ∈ WT := WT_of (tbw_1 (List.mem_of_getElem? (i := 0) rfl)) rfl
set_option maxRecDepth 100000 in
theorem liX7 : Cond.initialized RX7 ∈ WT := WT_of (tbw_1 (List.mem_of_getElem? (i := 10) rfl)) rfl
set_option maxRecDepth 100000 in
theorem lwL_name : Cond.codeWith yL_name cL_name 5 (some .int) [(0, 11, 14, 19), (0, 11, 18, 21)] ∈ WT := WT_of (tbw_3 (List.mem_of_getElem? (i := 191) rfl)) rfl
set_option maxRecDepth 100000 in
theorem lsL_name : Cond.static yL_name ∈ WT := WT_of (tbw_3 (List.mem_of_getElem? (i := 190) rfl)) rfl
set_option maxRecDepth 100000 in
theorem lwL_head : Cond.codeWith yL_head cL_head 8 (some .int) [(0, 17, 20, 19), (0, 17, 24, 21)] ∈ WT := WT_of (tbw_3 (List.mem_of_getElem? (i := 209) rfl)) rfl
set_option maxRecDepth 100000 in
theorem lsL_head : Cond.static yL_head ∈ WT := WT_of (tbw_3 (List.mem_of_getElem? (i := 208) rfl)) rfl
set_option maxRecDepth 100000 in
theorem lwL_copy : Cond.codeWith yL_copy cL_copy 5 (some .int) [(0, 11, 14, 19)] ∈ WT := WT_of (tbw_3 (List.mem_of_getElem? (i := 233) rfl)) rfl
set_option maxRecDepth 100000 in
theorem lsL_copy : Cond.static yL_copy ∈ WT := WT_of (tbw_3 (List.mem_of_getElem? (i := 232) rfl)) rfl
set_option maxRecDepth 100000 in
theorem lwL_swap : Cond.codeWith yL_swap cL_swap 5 (some .int) [(0, 11, 14, 19)] ∈ WT := WT_of (tbw_4 (List.mem_of_getElem? (i := 0) rfl)) rfl
set_option maxRecDepth 100000 in
theorem lsL_swap : Cond.static yL_swap ∈ WT := WT_of (tbw_3 (List.mem_of_getElem? (i := 239) rfl)) rfl
set_option maxRecDepth 100000 in
theorem lwL_part : Cond.codeWith yL_part cL_part 6 (some .int) [(0, 13, 16, 19)] ∈ WT := WT_of (tbw_4 (List.mem_of_getElem? (i := 7) rfl)) rfl
set_option maxRecDepth 100000 in
theorem lsL_part : Cond.static yL_part ∈ WT := WT_of (tbw_4 (List.mem_of_getElem? (i := 6) rfl)) rfl
set_option maxRecDepth 100000 in
theorem lwL_graft : Cond.codeWith yL_graft cL_graft 6 (some .int) [(0, 13, 16, 19)] ∈ WT := WT_of (tbw_4 (List.mem_of_getElem? (i := 20) rfl)) rfl
set_option maxRecDepth 100000 in
theorem lsL_graft : Cond.static yL_graft ∈ WT := WT_of (tbw_4 (List.mem_of_getElem? (i := 19) rfl)) rfl
set_option maxRecDepth 100000 in
theorem lwL_put : Cond.codeWith yL_put cL_put 6 (some .int) [(0, 13, 16, 19), (0, 13, 20, 21)] ∈ WT := WT_of (tbw_4 (List.mem_of_getElem? (i := 27) rfl)) rfl
set_option maxRecDepth 100000 in
theorem lsL_put : Cond.static yL_put ∈ WT := WT_of (tbw_4 (List.mem_of_getElem? (i := 26) rfl)) rfl
set_option maxRecDepth 100000 in
theorem lwL_shift : Cond.codeWith yL_shift cL_shift 5 (some .int) [(0, 11, 14, 19), (0, 11, 18, 21)] ∈ WT := WT_of (tbw_4 (List.mem_of_getElem? (i := 38) rfl)) rfl
set_option maxRecDepth 100000 in
theorem lsL_shift : Cond.static yL_shift ∈ WT := WT_of (tbw_4 (List.mem_of_getElem? (i := 37) rfl)) rfl
set_option maxRecDepth 100000 in
theorem lwL_plain : Cond.codeWith yL_plain cL_plain 4 (some .int) [(0, 10, 13, 19)] ∈ WT := WT_of (tbw_4 (List.mem_of_getElem? (i := 47) rfl)) rfl
set_option maxRecDepth 100000 in
theorem lsL_plain : Cond.static yL_plain ∈ WT := WT_of (tbw_4 (List.mem_of_getElem? (i := 46) rfl)) rfl
set_option maxRecDepth 100000 in
theorem lwL_use : Cond.codeWith yL_use cL_use 6 (some .int) [(0, 13, 16, 19)] ∈ WT := WT_of (tbw_4 (List.mem_of_getElem? (i := 54) rfl)) rfl
set_option maxRecDepth 100000 in
theorem lsL_use : Cond.static yL_use ∈ WT := WT_of (tbw_4 (List.mem_of_getElem? (i := 53) rfl)) rfl
set_option maxRecDepth 100000 in
theorem lwL_common : Cond.codeWith yL_common cL_common 6 (some .int) [(0, 13, 16, 19)] ∈ WT := WT_of (tbw_4 (List.mem_of_getElem? (i := 66) rfl)) rfl
set_option maxRecDepth 100000 in
theorem lsL_common : Cond.static yL_common ∈ WT := WT_of (tbw_4 (List.mem_of_getElem? (i := 65) rfl)) rfl
set_option maxRecDepth 100000 in
theorem lwL_forget : Cond.codeWith yL_forget cL_forget 4 (some .int) [(0, 10, 13, 19)] ∈ WT := WT_of (tbw_4 (List.mem_of_getElem? (i := 73) rfl)) rfl
set_option maxRecDepth 100000 in
theorem lsL_forget : Cond.static yL_forget ∈ WT := WT_of (tbw_4 (List.mem_of_getElem? (i := 72) rfl)) rfl
set_option maxRecDepth 100000 in
theorem lwL_tell : Cond.codeWith yL_tell cL_tell 6 (some .int) [(0, 13, 16, 19), (0, 13, 20, 21)] ∈ WT := WT_of (tbw_4 (List.mem_of_getElem? (i := 84) rfl)) rfl
set_option maxRecDepth 100000 in
theorem lsL_tell : Cond.static yL_tell ∈ WT := WT_of (tbw_4 (List.mem_of_getElem? (i := 83) rfl)) rfl
set_option maxRecDepth 100000 in
theorem lwL_take : Cond.codeWith yL_take cL_take 5 (some .int) [(0, 11, 14, 19)] ∈ WT := WT_of (tbw_4 (List.mem_of_getElem? (i := 91) rfl)) rfl
set_option maxRecDepth 100000 in
theorem lsL_take : Cond.static yL_take ∈ WT := WT_of (tbw_4 (List.mem_of_getElem? (i := 90) rfl)) rfl
set_option maxRecDepth 100000 in
theorem lwL_behind : Cond.codeWith yL_behind cL_behind 6 (some .int) [(0, 13, 16, 19)] ∈ WT := WT_of (tbw_4 (List.mem_of_getElem? (i := 103) rfl)) rfl
set_option maxRecDepth 100000 in
theorem lsL_behind : Cond.static yL_behind ∈ WT := WT_of (tbw_4 (List.mem_of_getElem? (i := 102) rfl)) rfl
set_option maxRecDepth 100000 in
theorem lwL_alike : Cond.codeWith yL_alike cL_alike 7 (some .int) [(0, 15, 18, 19), (0, 15, 22, 21)] ∈ WT := WT_of (tbw_4 (List.mem_of_getElem? (i := 118) rfl)) rfl
set_option maxRecDepth 100000 in
theorem lsL_alike : Cond.static yL_alike ∈ WT := WT_of (tbw_4 (List.mem_of_getElem? (i := 117) rfl)) rfl
set_option maxRecDepth 100000 in
theorem lwL_match : Cond.codeWith yL_match cL_match 6 (some .int) [(0, 13, 16, 19)] ∈ WT := WT_of (tbw_4 (List.mem_of_getElem? (i := 126) rfl)) rfl
set_option maxRecDepth 100000 in
theorem lsL_match : Cond.static yL_match ∈ WT := WT_of (tbw_4 (List.mem_of_getElem? (i := 125) rfl)) rfl
set_option maxRecDepth 100000 in
theorem lwL_text : Cond.codeWith yL_text cL_text 4 (some .int) [(0, 9, 12, 19)] ∈ WT := WT_of (tbw_4 (List.mem_of_getElem? (i := 133) rfl)) rfl
set_option maxRecDepth 100000 in
theorem lsL_text : Cond.static yL_text ∈ WT := WT_of (tbw_4 (List.mem_of_getElem? (i := 132) rfl)) rfl
set_option maxRecDepth 100000 in
theorem lwL_size : Cond.codeWith yL_size cL_size 4 (some .int) [(0, 10, 13, 19)] ∈ WT := WT_of (tbw_5 (List.mem_of_getElem? (i := 184) rfl)) rfl
set_option maxRecDepth 100000 in
theorem lsL_size : Cond.static yL_size ∈ WT := WT_of (tbw_5 (List.mem_of_getElem? (i := 183) rfl)) rfl
set_option maxRecDepth 100000 in
theorem lwL_depth : Cond.codeWith yL_depth cL_depth 4 (some .int) [(0, 10, 13, 19)] ∈ WT := WT_of (tbw_5 (List.mem_of_getElem? (i := 188) rfl)) rfl
set_option maxRecDepth 100000 in
theorem lsL_depth : Cond.static yL_depth ∈ WT := WT_of (tbw_5 (List.mem_of_getElem? (i := 187) rfl)) rfl
set_option maxRecDepth 100000 in
theorem lwL_shared : Cond.codeWith yL_shared cL_shared 4 (some .int) [(0, 10, 13, 19)] ∈ WT := WT_of (tbw_5 (List.mem_of_getElem? (i := 192) rfl)) rfl
set_option maxRecDepth 100000 in
theorem lsL_shared : Cond.static yL_shared ∈ WT := WT_of (tbw_5 (List.mem_of_getElem? (i := 191) rfl)) rfl
set_option maxRecDepth 100000 in
theorem lwL_letter : Cond.codeWith yL_letter cL_letter 5 (some .int) [(0, 11, 14, 19)] ∈ WT := WT_of (tbw_5 (List.mem_of_getElem? (i := 196) rfl)) rfl
set_option maxRecDepth 100000 in
theorem lsL_letter : Cond.static yL_letter ∈ WT := WT_of (tbw_5 (List.mem_of_getElem? (i := 195) rfl)) rfl
set_option maxRecDepth 100000 in
theorem lwL_sizeAt : Cond.codeWith yL_sizeAt cL_sizeAt 5 (some .int) [(0, 11, 14, 19)] ∈ WT := WT_of (tbw_5 (List.mem_of_getElem? (i := 203) rfl)) rfl
set_option maxRecDepth 100000 in
theorem lsL_sizeAt : Cond.static yL_sizeAt ∈ WT := WT_of (tbw_5 (List.mem_of_getElem? (i := 202) rfl)) rfl
set_option maxRecDepth 100000 in
theorem lwL_count : Cond.codeWith yL_count cL_count 5 (some .int) [(0, 11, 14, 19), (0, 11, 18, 21)] ∈ WT := WT_of (tbw_5 (List.mem_of_getElem? (i := 210) rfl)) rfl
set_option maxRecDepth 100000 in
theorem lsL_count : Cond.static yL_count ∈ WT := WT_of (tbw_5 (List.mem_of_getElem? (i := 209) rfl)) rfl
set_option maxRecDepth 100000 in
theorem lwL_names : Cond.codeWith yL_names cL_names 4 (some .int) [(0, 10, 13, 19)] ∈ WT := WT_of (tbw_5 (List.mem_of_getElem? (i := 217) rfl)) rfl
set_option maxRecDepth 100000 in
theorem lsL_names : Cond.static yL_names ∈ WT := WT_of (tbw_5 (List.mem_of_getElem? (i := 216) rfl)) rfl
set_option maxRecDepth 100000 in
theorem lwL_find : Cond.codeWith yL_find cL_find 5 (some .int) [(0, 11, 14, 19)] ∈ WT := WT_of (tbw_5 (List.mem_of_getElem? (i := 221) rfl)) rfl
set_option maxRecDepth 100000 in
theorem lsL_find : Cond.static yL_find ∈ WT := WT_of (tbw_5 (List.mem_of_getElem? (i := 220) rfl)) rfl
set_option maxRecDepth 100000 in
theorem lwL_differ : Cond.codeWith yL_differ cL_differ 5 (some .int) [(0, 11, 14, 19)] ∈ WT := WT_of (tbw_5 (List.mem_of_getElem? (i := 229) rfl)) rfl
set_option maxRecDepth 100000 in
theorem lsL_differ : Cond.static yL_differ ∈ WT := WT_of (tbw_5 (List.mem_of_getElem? (i := 228) rfl)) rfl
set_option maxRecDepth 100000 in
theorem lwL_is : Cond.codeWith yL_is cL_is 6 (some .int) [(0, 20, 23, 19), (0, 20, 27, 21)] ∈ WT := WT_of (tbw_5 (List.mem_of_getElem? (i := 236) rfl)) rfl
set_option maxRecDepth 100000 in
theorem lsL_is : Cond.static yL_is ∈ WT := WT_of (tbw_5 (List.mem_of_getElem? (i := 235) rfl)) rfl
set_option maxRecDepth 100000 in
theorem lwL_can : Cond.codeWith yL_can cL_can 6 (some .int) [(0, 20, 23, 19), (0, 20, 27, 21)] ∈ WT := WT_of (tbw_6 (List.mem_of_getElem? (i := 4) rfl)) rfl
set_option maxRecDepth 100000 in
theorem lsL_can : Cond.static yL_can ∈ WT := WT_of (tbw_6 (List.mem_of_getElem? (i := 3) rfl)) rfl
set_option maxRecDepth 100000 in
theorem lwL_steps : Cond.codeWith yL_steps cL_steps 5 (some .int) [(0, 11, 14, 19)] ∈ WT := WT_of (tbw_6 (List.mem_of_getElem? (i := 11) rfl)) rfl
set_option maxRecDepth 100000 in
theorem lsL_steps : Cond.static yL_steps ∈ WT := WT_of (tbw_6 (List.mem_of_getElem? (i := 10) rfl)) rfl
set_option maxRecDepth 100000 in
theorem lwL_why : Cond.codeWith yL_why cL_why 5 (some .int) [(0, 11, 14, 19)] ∈ WT := WT_of (tbw_6 (List.mem_of_getElem? (i := 15) rfl)) rfl
set_option maxRecDepth 100000 in
theorem lsL_why : Cond.static yL_why ∈ WT := WT_of (tbw_6 (List.mem_of_getElem? (i := 14) rfl)) rfl
set_option maxRecDepth 100000 in
theorem lwL_told : Cond.codeWith yL_told cL_told 5 (some .int) [(0, 10, 13, 19), (0, 10, 17, 21)] ∈ WT := WT_of (tbw_6 (List.mem_of_getElem? (i := 19) rfl)) rfl
set_option maxRecDepth 100000 in
theorem lsL_told : Cond.static yL_told ∈ WT := WT_of (tbw_6 (List.mem_of_getElem? (i := 18) rfl)) rfl
set_option maxRecDepth 100000 in
theorem lwL_moved : Cond.codeWith yL_moved cL_moved 4 (some .int) [(0, 10, 13, 19)] ∈ WT := WT_of (tbw_6 (List.mem_of_getElem? (i := 26) rfl)) rfl
set_option maxRecDepth 100000 in
theorem lsL_moved : Cond.static yL_moved ∈ WT := WT_of (tbw_6 (List.mem_of_getElem? (i := 25) rfl)) rfl
set_option maxRecDepth 100000 in
theorem lwL_makes : Cond.codeWith yL_makes cL_makes 6 (some .int) [(0, 20, 23, 19)] ∈ WT := WT_of (tbw_6 (List.mem_of_getElem? (i := 33) rfl)) rfl
set_option maxRecDepth 100000 in
theorem lsL_makes : Cond.static yL_makes ∈ WT := WT_of (tbw_6 (List.mem_of_getElem? (i := 32) rfl)) rfl
set_option maxRecDepth 100000 in
theorem lwL_isSo : Cond.codeWith yL_isSo cL_isSo 5 (some .int) [(0, 18, 21, 19), (0, 18, 25, 21)] ∈ WT := WT_of (tbw_6 (List.mem_of_getElem? (i := 40) rfl)) rfl
set_option maxRecDepth 100000 in
theorem lsL_isSo : Cond.static yL_isSo ∈ WT := WT_of (tbw_6 (List.mem_of_getElem? (i := 39) rfl)) rfl
set_option maxRecDepth 100000 in
theorem lwL_unlike : Cond.codeWith yL_unlike cL_unlike 5 (some .int) [(0, 11, 14, 19)] ∈ WT := WT_of (tbw_6 (List.mem_of_getElem? (i := 52) rfl)) rfl
set_option maxRecDepth 100000 in
theorem lsL_unlike : Cond.static yL_unlike ∈ WT := WT_of (tbw_6 (List.mem_of_getElem? (i := 51) rfl)) rfl
set_option maxRecDepth 100000 in
theorem lwL_weight : Cond.codeWith yL_weight cL_weight 5 (some .int) [(0, 11, 14, 19)] ∈ WT := WT_of (tbw_6 (List.mem_of_getElem? (i := 59) rfl)) rfl
set_option maxRecDepth 100000 in
theorem lsL_weight : Cond.static yL_weight ∈ WT := WT_of (tbw_6 (List.mem_of_getElem? (i := 58) rfl)) rfl
set_option maxRecDepth 100000 in
theorem lwL_house : Cond.codeWith yL_house cL_house 4 (some .int) [(0, 10, 13, 21)] ∈ WT := WT_of (tbw_6 (List.mem_of_getElem? (i := 70) rfl)) rfl
set_option maxRecDepth 100000 in
theorem lsL_house : Cond.static yL_house ∈ WT := WT_of (tbw_6 (List.mem_of_getElem? (i := 69) rfl)) rfl
set_option maxRecDepth 100000 in
theorem mlL_147 : Cond.methodLink RL 147 yX6_init ∈ WT := WT_of (tbw_1 (List.mem_of_getElem? (i := 31) rfl)) rfl
set_option maxRecDepth 100000 in
theorem mlL_278 : Cond.methodLink RL 278 yX6_knock ∈ WT := WT_of (tbw_1 (List.mem_of_getElem? (i := 205) rfl)) rfl
set_option maxRecDepth 100000 in
theorem mlL_282 : Cond.methodLink RL 282 yX6_isSound ∈ WT := WT_of (tbw_1 (List.mem_of_getElem? (i := 209) rfl)) rfl
set_option maxRecDepth 100000 in
theorem mlL_287 : Cond.methodLink RL 287 yX6_digest ∈ WT := WT_of (tbw_2 (List.mem_of_getElem? (i := 236) rfl)) rfl
set_option maxRecDepth 100000 in
theorem mlL_152 : Cond.methodLink RL 152 yL_name ∈ WT := WT_of (tbw_3 (List.mem_of_getElem? (i := 189) rfl)) rfl
set_option maxRecDepth 100000 in
theorem mlL_7 : Cond.methodLink RL 7 yX6_name ∈ WT := WT_of (tbw_3 (List.mem_of_getElem? (i := 194) rfl)) rfl
set_option maxRecDepth 100000 in
theorem mlL_158 : Cond.methodLink RL 158 yL_head ∈ WT := WT_of (tbw_3 (List.mem_of_getElem? (i := 207) rfl)) rfl
set_option maxRecDepth 100000 in
theorem mlL_23 : Cond.methodLink RL 23 yX6_head ∈ WT := WT_of (tbw_3 (List.mem_of_getElem? (i := 210) rfl)) rfl
set_option maxRecDepth 100000 in
theorem mlL_162 : Cond.methodLink RL 162 yL_copy ∈ WT := WT_of (tbw_3 (List.mem_of_getElem? (i := 231) rfl)) rfl
set_option maxRecDepth 100000 in
theorem mlL_27 : Cond.methodLink RL 27 yX6_copy ∈ WT := WT_of (tbw_3 (List.mem_of_getElem? (i := 234) rfl)) rfl
set_option maxRecDepth 100000 in
theorem mlL_165 : Cond.methodLink RL 165 yL_swap ∈ WT := WT_of (tbw_3 (List.mem_of_getElem? (i := 238) rfl)) rfl
set_option maxRecDepth 100000 in
theorem mlL_30 : Cond.methodLink RL 30 yX6_swap ∈ WT := WT_of (tbw_4 (List.mem_of_getElem? (i := 1) rfl)) rfl
set_option maxRecDepth 100000 in
theorem mlL_168 : Cond.methodLink RL 168 yL_part ∈ WT := WT_of (tbw_4 (List.mem_of_getElem? (i := 5) rfl)) rfl
set_option maxRecDepth 100000 in
theorem mlL_33 : Cond.methodLink RL 33 yX6_part ∈ WT := WT_of (tbw_4 (List.mem_of_getElem? (i := 8) rfl)) rfl
set_option maxRecDepth 100000 in
theorem mlL_172 : Cond.methodLink RL 172 yL_graft ∈ WT := WT_of (tbw_4 (List.mem_of_getElem? (i := 18) rfl)) rfl
set_option maxRecDepth 100000 in
theorem mlL_37 : Cond.methodLink RL 37 yX6_graft ∈ WT := WT_of (tbw_4 (List.mem_of_getElem? (i := 21) rfl)) rfl
set_option maxRecDepth 100000 in
theorem mlL_175 : Cond.methodLink RL 175 yL_put ∈ WT := WT_of (tbw_4 (List.mem_of_getElem? (i := 25) rfl)) rfl
set_option maxRecDepth 100000 in
theorem mlL_40 : Cond.methodLink RL 40 yX6_put ∈ WT := WT_of (tbw_4 (List.mem_of_getElem? (i := 28) rfl)) rfl
set_option maxRecDepth 100000 in
theorem mlL_178 : Cond.methodLink RL 178 yL_shift ∈ WT := WT_of (tbw_4 (List.mem_of_getElem? (i := 36) rfl)) rfl
set_option maxRecDepth 100000 in
theorem mlL_43 : Cond.methodLink RL 43 yX6_shift ∈ WT := WT_of (tbw_4 (List.mem_of_getElem? (i := 39) rfl)) rfl
set_option maxRecDepth 100000 in
theorem mlL_181 : Cond.methodLink RL 181 yL_plain ∈ WT := WT_of (tbw_4 (List.mem_of_getElem? (i := 45) rfl)) rfl
set_option maxRecDepth 100000 in
theorem mlL_46 : Cond.methodLink RL 46 yX6_plain ∈ WT := WT_of (tbw_4 (List.mem_of_getElem? (i := 48) rfl)) rfl
set_option maxRecDepth 100000 in
theorem mlL_185 : Cond.methodLink RL 185 yL_use ∈ WT := WT_of (tbw_4 (List.mem_of_getElem? (i := 52) rfl)) rfl
set_option maxRecDepth 100000 in
theorem mlL_50 : Cond.methodLink RL 50 yX6_use ∈ WT := WT_of (tbw_4 (List.mem_of_getElem? (i := 55) rfl)) rfl
set_option maxRecDepth 100000 in
theorem mlL_188 : Cond.methodLink RL 188 yL_common ∈ WT := WT_of (tbw_4 (List.mem_of_getElem? (i := 64) rfl)) rfl
set_option maxRecDepth 100000 in
theorem mlL_53 : Cond.methodLink RL 53 yX6_common ∈ WT := WT_of (tbw_4 (List.mem_of_getElem? (i := 67) rfl)) rfl
set_option maxRecDepth 100000 in
theorem mlL_191 : Cond.methodLink RL 191 yL_forget ∈ WT := WT_of (tbw_4 (List.mem_of_getElem? (i := 71) rfl)) rfl
set_option maxRecDepth 100000 in
theorem mlL_56 : Cond.methodLink RL 56 yX6_forget ∈ WT := WT_of (tbw_4 (List.mem_of_getElem? (i := 74) rfl)) rfl
set_option maxRecDepth 100000 in
theorem mlL_194 : Cond.methodLink RL 194 yL_tell ∈ WT := WT_of (tbw_4 (List.mem_of_getElem? (i := 82) rfl)) rfl
set_option maxRecDepth 100000 in
theorem mlL_59 : Cond.methodLink RL 59 yX6_tell ∈ WT := WT_of (tbw_4 (List.mem_of_getElem? (i := 85) rfl)) rfl
set_option maxRecDepth 100000 in
theorem mlL_197 : Cond.methodLink RL 197 yL_take ∈ WT := WT_of (tbw_4 (List.mem_of_getElem? (i := 89) rfl)) rfl
set_option maxRecDepth 100000 in
theorem mlL_62 : Cond.methodLink RL 62 yX6_take ∈ WT := WT_of (tbw_4 (List.mem_of_getElem? (i := 92) rfl)) rfl
set_option maxRecDepth 100000 in
theorem mlL_200 : Cond.methodLink RL 200 yL_behind ∈ WT := WT_of (tbw_4 (List.mem_of_getElem? (i := 101) rfl)) rfl
set_option maxRecDepth 100000 in
theorem mlL_65 : Cond.methodLink RL 65 yX6_behind ∈ WT := WT_of (tbw_4 (List.mem_of_getElem? (i := 104) rfl)) rfl
set_option maxRecDepth 100000 in
theorem mlL_203 : Cond.methodLink RL 203 yL_alike ∈ WT := WT_of (tbw_4 (List.mem_of_getElem? (i := 116) rfl)) rfl
set_option maxRecDepth 100000 in
theorem mlL_68 : Cond.methodLink RL 68 yX6_alike ∈ WT := WT_of (tbw_4 (List.mem_of_getElem? (i := 119) rfl)) rfl
set_option maxRecDepth 100000 in
theorem mlL_207 : Cond.methodLink RL 207 yL_match ∈ WT := WT_of (tbw_4 (List.mem_of_getElem? (i := 124) rfl)) rfl
set_option maxRecDepth 100000 in
theorem mlL_72 : Cond.methodLink RL 72 yX6_match ∈ WT := WT_of (tbw_4 (List.mem_of_getElem? (i := 127) rfl)) rfl
set_option maxRecDepth 100000 in
theorem mlL_210 : Cond.methodLink RL 210 yL_text ∈ WT := WT_of (tbw_4 (List.mem_of_getElem? (i := 131) rfl)) rfl
set_option maxRecDepth 100000 in
theorem mlL_75 : Cond.methodLink RL 75 yX6_text ∈ WT := WT_of (tbw_4 (List.mem_of_getElem? (i := 134) rfl)) rfl
set_option maxRecDepth 100000 in
theorem mlL_213 : Cond.methodLink RL 213 yL_size ∈ WT := WT_of (tbw_5 (List.mem_of_getElem? (i := 182) rfl)) rfl
set_option maxRecDepth 100000 in
theorem mlL_83 : Cond.methodLink RL 83 yX6_size ∈ WT := WT_of (tbw_5 (List.mem_of_getElem? (i := 185) rfl)) rfl
set_option maxRecDepth 100000 in
theorem mlL_216 : Cond.methodLink RL 216 yL_depth ∈ WT := WT_of (tbw_5 (List.mem_of_getElem? (i := 186) rfl)) rfl
set_option maxRecDepth 100000 in
theorem mlL_86 : Cond.methodLink RL 86 yX6_depth ∈ WT := WT_of (tbw_5 (List.mem_of_getElem? (i := 189) rfl)) rfl
set_option maxRecDepth 100000 in
theorem mlL_219 : Cond.methodLink RL 219 yL_shared ∈ WT := WT_of (tbw_5 (List.mem_of_getElem? (i := 190) rfl)) rfl
set_option maxRecDepth 100000 in
theorem mlL_89 : Cond.methodLink RL 89 yX6_shared ∈ WT := WT_of (tbw_5 (List.mem_of_getElem? (i := 193) rfl)) rfl
set_option maxRecDepth 100000 in
theorem mlL_222 : Cond.methodLink RL 222 yL_letter ∈ WT := WT_of (tbw_5 (List.mem_of_getElem? (i := 194) rfl)) rfl
set_option maxRecDepth 100000 in
theorem mlL_92 : Cond.methodLink RL 92 yX6_letter ∈ WT := WT_of (tbw_5 (List.mem_of_getElem? (i := 197) rfl)) rfl
set_option maxRecDepth 100000 in
theorem mlL_225 : Cond.methodLink RL 225 yL_sizeAt ∈ WT := WT_of (tbw_5 (List.mem_of_getElem? (i := 201) rfl)) rfl
set_option maxRecDepth 100000 in
theorem mlL_95 : Cond.methodLink RL 95 yX6_sizeAt ∈ WT := WT_of (tbw_5 (List.mem_of_getElem? (i := 204) rfl)) rfl
set_option maxRecDepth 100000 in
theorem mlL_228 : Cond.methodLink RL 228 yL_count ∈ WT := WT_of (tbw_5 (List.mem_of_getElem? (i := 208) rfl)) rfl
set_option maxRecDepth 100000 in
theorem mlL_98 : Cond.methodLink RL 98 yX6_count ∈ WT := WT_of (tbw_5 (List.mem_of_getElem? (i := 211) rfl)) rfl
set_option maxRecDepth 100000 in
theorem mlL_231 : Cond.methodLink RL 231 yL_names ∈ WT := WT_of (tbw_5 (List.mem_of_getElem? (i := 215) rfl)) rfl
set_option maxRecDepth 100000 in
theorem mlL_101 : Cond.methodLink RL 101 yX6_names ∈ WT := WT_of (tbw_5 (List.mem_of_getElem? (i := 218) rfl)) rfl
set_option maxRecDepth 100000 in
theorem mlL_234 : Cond.methodLink RL 234 yL_find ∈ WT := WT_of (tbw_5 (List.mem_of_getElem? (i := 219) rfl)) rfl
set_option maxRecDepth 100000 in
theorem mlL_104 : Cond.methodLink RL 104 yX6_find ∈ WT := WT_of (tbw_5 (List.mem_of_getElem? (i := 222) rfl)) rfl
set_option maxRecDepth 100000 in
theorem mlL_237 : Cond.methodLink RL 237 yL_differ ∈ WT := WT_of (tbw_5 (List.mem_of_getElem? (i := 227) rfl)) rfl
set_option maxRecDepth 100000 in
theorem mlL_107 : Cond.methodLink RL 107 yX6_differ ∈ WT := WT_of (tbw_5 (List.mem_of_getElem? (i := 230) rfl)) rfl
set_option maxRecDepth 100000 in
theorem mlL_240 : Cond.methodLink RL 240 yL_is ∈ WT := WT_of (tbw_5 (List.mem_of_getElem? (i := 234) rfl)) rfl
set_option maxRecDepth 100000 in
theorem mlL_110 : Cond.methodLink RL 110 yX6_is ∈ WT := WT_of (tbw_5 (List.mem_of_getElem? (i := 237) rfl)) rfl
set_option maxRecDepth 100000 in
theorem mlL_243 : Cond.methodLink RL 243 yL_can ∈ WT := WT_of (tbw_6 (List.mem_of_getElem? (i := 2) rfl)) rfl
set_option maxRecDepth 100000 in
theorem mlL_114 : Cond.methodLink RL 114 yX6_can ∈ WT := WT_of (tbw_6 (List.mem_of_getElem? (i := 5) rfl)) rfl
set_option maxRecDepth 100000 in
theorem mlL_246 : Cond.methodLink RL 246 yL_steps ∈ WT := WT_of (tbw_6 (List.mem_of_getElem? (i := 9) rfl)) rfl
set_option maxRecDepth 100000 in
theorem mlL_117 : Cond.methodLink RL 117 yX6_steps ∈ WT := WT_of (tbw_6 (List.mem_of_getElem? (i := 12) rfl)) rfl
set_option maxRecDepth 100000 in
theorem mlL_249 : Cond.methodLink RL 249 yL_why ∈ WT := WT_of (tbw_6 (List.mem_of_getElem? (i := 13) rfl)) rfl
set_option maxRecDepth 100000 in
theorem mlL_120 : Cond.methodLink RL 120 yX6_why ∈ WT := WT_of (tbw_6 (List.mem_of_getElem? (i := 16) rfl)) rfl
set_option maxRecDepth 100000 in
theorem mlL_252 : Cond.methodLink RL 252 yL_told ∈ WT := WT_of (tbw_6 (List.mem_of_getElem? (i := 17) rfl)) rfl
set_option maxRecDepth 100000 in
theorem mlL_123 : Cond.methodLink RL 123 yX6_told ∈ WT := WT_of (tbw_6 (List.mem_of_getElem? (i := 20) rfl)) rfl
set_option maxRecDepth 100000 in
theorem mlL_255 : Cond.methodLink RL 255 yL_moved ∈ WT := WT_of (tbw_6 (List.mem_of_getElem? (i := 24) rfl)) rfl
set_option maxRecDepth 100000 in
theorem mlL_127 : Cond.methodLink RL 127 yX6_moved ∈ WT := WT_of (tbw_6 (List.mem_of_getElem? (i := 27) rfl)) rfl
set_option maxRecDepth 100000 in
theorem mlL_258 : Cond.methodLink RL 258 yL_makes ∈ WT := WT_of (tbw_6 (List.mem_of_getElem? (i := 31) rfl)) rfl
set_option maxRecDepth 100000 in
theorem mlL_130 : Cond.methodLink RL 130 yX6_makes ∈ WT := WT_of (tbw_6 (List.mem_of_getElem? (i := 34) rfl)) rfl
set_option maxRecDepth 100000 in
theorem mlL_261 : Cond.methodLink RL 261 yL_isSo ∈ WT := WT_of (tbw_6 (List.mem_of_getElem? (i := 38) rfl)) rfl
set_option maxRecDepth 100000 in
theorem mlL_133 : Cond.methodLink RL 133 yX6_isSo ∈ WT := WT_of (tbw_6 (List.mem_of_getElem? (i := 41) rfl)) rfl
set_option maxRecDepth 100000 in
theorem mlL_264 : Cond.methodLink RL 264 yL_unlike ∈ WT := WT_of (tbw_6 (List.mem_of_getElem? (i := 50) rfl)) rfl
set_option maxRecDepth 100000 in
theorem mlL_137 : Cond.methodLink RL 137 yX6_unlike ∈ WT := WT_of (tbw_6 (List.mem_of_getElem? (i := 53) rfl)) rfl
set_option maxRecDepth 100000 in
theorem mlL_271 : Cond.methodLink RL 271 yL_weight ∈ WT := WT_of (tbw_6 (List.mem_of_getElem? (i := 57) rfl)) rfl
set_option maxRecDepth 100000 in
theorem mlL_140 : Cond.methodLink RL 140 yX6_weight ∈ WT := WT_of (tbw_6 (List.mem_of_getElem? (i := 60) rfl)) rfl
set_option maxRecDepth 100000 in
theorem mlL_275 : Cond.methodLink RL 275 yL_house ∈ WT := WT_of (tbw_6 (List.mem_of_getElem? (i := 68) rfl)) rfl
set_option maxRecDepth 100000 in
theorem mlL_144 : Cond.methodLink RL 144 yX6_house ∈ WT := WT_of (tbw_6 (List.mem_of_getElem? (i := 71) rfl)) rfl
set_option maxRecDepth 100000 in
theorem mlL_150 : Cond.methodLink RL 150 yX10_init ∈ WT := WT_of (tbw_6 (List.mem_of_getElem? (i := 74) rfl)) rfl
set_option maxRecDepth 100000 in
theorem mlL_267 : Cond.methodLink RL 267 yX10_thrown ∈ WT := WT_of (tbw_6 (List.mem_of_getElem? (i := 107) rfl)) rfl
set_option maxRecDepth 100000 in
theorem mlL_157 : Cond.methodLink RL 157 yX10_name ∈ WT := WT_of (tbw_6 (List.mem_of_getElem? (i := 111) rfl)) rfl
set_option maxRecDepth 100000 in
theorem mlL_161 : Cond.methodLink RL 161 yX10_head ∈ WT := WT_of (tbw_6 (List.mem_of_getElem? (i := 129) rfl)) rfl
set_option maxRecDepth 100000 in
theorem mlL_164 : Cond.methodLink RL 164 yX10_copy ∈ WT := WT_of (tbw_6 (List.mem_of_getElem? (i := 147) rfl)) rfl
set_option maxRecDepth 100000 in
theorem mlL_167 : Cond.methodLink RL 167 yX10_swap ∈ WT := WT_of (tbw_6 (List.mem_of_getElem? (i := 155) rfl)) rfl
set_option maxRecDepth 100000 in
theorem mlL_171 : Cond.methodLink RL 171 yX10_part ∈ WT := WT_of (tbw_6 (List.mem_of_getElem? (i := 166) rfl)) rfl
set_option maxRecDepth 100000 in
theorem mlL_174 : Cond.methodLink RL 174 yX10_graft ∈ WT := WT_of (tbw_6 (List.mem_of_getElem? (i := 183) rfl)) rfl
set_option maxRecDepth 100000 in
theorem mlL_177 : Cond.methodLink RL 177 yX10_put ∈ WT := WT_of (tbw_6 (List.mem_of_getElem? (i := 187) rfl)) rfl
set_option maxRecDepth 100000 in
theorem mlL_180 : Cond.methodLink RL 180 yX10_shift ∈ WT := WT_of (tbw_6 (List.mem_of_getElem? (i := 197) rfl)) rfl
set_option maxRecDepth 100000 in
theorem mlL_184 : Cond.methodLink RL 184 yX10_plain ∈ WT := WT_of (tbw_6 (List.mem_of_getElem? (i := 208) rfl)) rfl
set_option maxRecDepth 100000 in
theorem mlL_187 : Cond.methodLink RL 187 yX10_use ∈ WT := WT_of (tbw_6 (List.mem_of_getElem? (i := 215) rfl)) rfl
set_option maxRecDepth 100000 in
theorem mlL_190 : Cond.methodLink RL 190 yX10_common ∈ WT := WT_of (tbw_6 (List.mem_of_getElem? (i := 222) rfl)) rfl
set_option maxRecDepth 100000 in
theorem mlL_193 : Cond.methodLink RL 193 yX10_forget ∈ WT := WT_of (tbw_6 (List.mem_of_getElem? (i := 229) rfl)) rfl
set_option maxRecDepth 100000 in
theorem mlL_196 : Cond.methodLink RL 196 yX10_tell ∈ WT := WT_of (tbw_6 (List.mem_of_getElem? (i := 236) rfl)) rfl
set_option maxRecDepth 100000 in
theorem mlL_199 : Cond.methodLink RL 199 yX10_take ∈ WT := WT_of (tbw_7 (List.mem_of_getElem? (i := 0) rfl)) rfl
set_option maxRecDepth 100000 in
theorem mlL_202 : Cond.methodLink RL 202 yX10_behind ∈ WT := WT_of (tbw_7 (List.mem_of_getElem? (i := 8) rfl)) rfl
set_option maxRecDepth 100000 in
theorem mlL_206 : Cond.methodLink RL 206 yX10_alike ∈ WT := WT_of (tbw_7 (List.mem_of_getElem? (i := 15) rfl)) rfl
set_option maxRecDepth 100000 in
theorem mlL_209 : Cond.methodLink RL 209 yX10_match ∈ WT := WT_of (tbw_7 (List.mem_of_getElem? (i := 145) rfl)) rfl
set_option maxRecDepth 100000 in
theorem mlL_212 : Cond.methodLink RL 212 yX10_text ∈ WT := WT_of (tbw_7 (List.mem_of_getElem? (i := 152) rfl)) rfl
set_option maxRecDepth 100000 in
theorem mlL_215 : Cond.methodLink RL 215 yX10_size ∈ WT := WT_of (tbw_7 (List.mem_of_getElem? (i := 168) rfl)) rfl
set_option maxRecDepth 100000 in
theorem mlL_218 : Cond.methodLink RL 218 yX10_depth ∈ WT := WT_of (tbw_7 (List.mem_of_getElem? (i := 172) rfl)) rfl
set_option maxRecDepth 100000 in
theorem mlL_221 : Cond.methodLink RL 221 yX10_shared ∈ WT := WT_of (tbw_7 (List.mem_of_getElem? (i := 179) rfl)) rfl
set_option maxRecDepth 100000 in
theorem mlL_224 : Cond.methodLink RL 224 yX10_letter ∈ WT := WT_of (tbw_7 (List.mem_of_getElem? (i := 193) rfl)) rfl
set_option maxRecDepth 100000 in
theorem mlL_227 : Cond.methodLink RL 227 yX10_sizeAt ∈ WT := WT_of (tbw_7 (List.mem_of_getElem? (i := 197) rfl)) rfl
set_option maxRecDepth 100000 in
theorem mlL_230 : Cond.methodLink RL 230 yX10_count ∈ WT := WT_of (tbw_7 (List.mem_of_getElem? (i := 201) rfl)) rfl
set_option maxRecDepth 100000 in
theorem mlL_233 : Cond.methodLink RL 233 yX10_names ∈ WT := WT_of (tbw_7 (List.mem_of_getElem? (i := 205) rfl)) rfl
set_option maxRecDepth 100000 in
theorem mlL_236 : Cond.methodLink RL 236 yX10_find ∈ WT := WT_of (tbw_7 (List.mem_of_getElem? (i := 209) rfl)) rfl
set_option maxRecDepth 100000 in
theorem mlL_239 : Cond.methodLink RL 239 yX10_differ ∈ WT := WT_of (tbw_7 (List.mem_of_getElem? (i := 213) rfl)) rfl
set_option maxRecDepth 100000 in
theorem mlL_242 : Cond.methodLink RL 242 yX10_is ∈ WT := WT_of (tbw_7 (List.mem_of_getElem? (i := 217) rfl)) rfl
set_option maxRecDepth 100000 in
theorem mlL_245 : Cond.methodLink RL 245 yX10_can ∈ WT := WT_of (tbw_7 (List.mem_of_getElem? (i := 221) rfl)) rfl
set_option maxRecDepth 100000 in
theorem mlL_248 : Cond.methodLink RL 248 yX10_steps ∈ WT := WT_of (tbw_7 (List.mem_of_getElem? (i := 225) rfl)) rfl
set_option maxRecDepth 100000 in
theorem mlL_251 : Cond.methodLink RL 251 yX10_why ∈ WT := WT_of (tbw_7 (List.mem_of_getElem? (i := 229) rfl)) rfl
set_option maxRecDepth 100000 in
theorem mlL_254 : Cond.methodLink RL 254 yX10_told ∈ WT := WT_of (tbw_7 (List.mem_of_getElem? (i := 233) rfl)) rfl
set_option maxRecDepth 100000 in
theorem mlL_257 : Cond.methodLink RL 257 yX10_moved ∈ WT := WT_of (tbw_7 (List.mem_of_getElem? (i := 237) rfl)) rfl
set_option maxRecDepth 100000 in
theorem mlL_260 : Cond.methodLink RL 260 yX10_makes ∈ WT := WT_of (tbw_8 (List.mem_of_getElem? (i := 1) rfl)) rfl
set_option maxRecDepth 100000 in
theorem mlL_263 : Cond.methodLink RL 263 yX10_isSo ∈ WT := WT_of (tbw_8 (List.mem_of_getElem? (i := 5) rfl)) rfl
set_option maxRecDepth 100000 in
theorem mlL_266 : Cond.methodLink RL 266 yX10_unlike ∈ WT := WT_of (tbw_8 (List.mem_of_getElem? (i := 12) rfl)) rfl
set_option maxRecDepth 100000 in
theorem mlL_274 : Cond.methodLink RL 274 yX10_weight ∈ WT := WT_of (tbw_8 (List.mem_of_getElem? (i := 16) rfl)) rfl
set_option maxRecDepth 100000 in
theorem mlL_277 : Cond.methodLink RL 277 yX10_house ∈ WT := WT_of (tbw_8 (List.mem_of_getElem? (i := 20) rfl)) rfl
set_option maxRecDepth 100000 in
theorem mlL_281 : Cond.methodLink RL 281 yX10_knock ∈ WT := WT_of (tbw_8 (List.mem_of_getElem? (i := 28) rfl)) rfl
set_option maxRecDepth 100000 in
theorem mlL_286 : Cond.methodLink RL 286 yX10_isSound ∈ WT := WT_of (tbw_8 (List.mem_of_getElem? (i := 32) rfl)) rfl
set_option maxRecDepth 100000 in
theorem mlL_291 : Cond.methodLink RL 291 yX10_digest ∈ WT := WT_of (tbw_8 (List.mem_of_getElem? (i := 36) rfl)) rfl
set_option maxRecDepth 100000 in
theorem clL_19 : Cond.classLink RL 19 ioobe ∈ WT := WT_of (tbw_3 (List.mem_of_getElem? (i := 192) rfl)) rfl
set_option maxRecDepth 100000 in
theorem clL_21 : Cond.classLink RL 21 iae ∈ WT := WT_of (tbw_3 (List.mem_of_getElem? (i := 193) rfl)) rfl
set_option maxRecDepth 100000 in
theorem cstI : Cond.castable ioobe ioobe ∈ lw_tbl := tbw_3 (List.mem_of_getElem? (i := 12) rfl)
set_option maxRecDepth 100000 in
theorem cstA : Cond.castable iae iae ∈ lw_tbl := tbw_3 (List.mem_of_getElem? (i := 124) rfl)
set_option maxRecDepth 100000 in
theorem mnL_151 : Cond.methodLinkNest RL 151 yX7_init "BranchmatchLaw" ∈ lw_tbl := tbw_3 (List.mem_of_getElem? (i := 178) rfl)
set_option maxRecDepth 100000 in
theorem fnL_13 : Cond.fieldLinkNest RL 13 RX7 (TX7 0).2.1 (TX7 0).2.2.1 "BranchmatchLaw" ∈ lw_tbl := tbw_3 (List.mem_of_getElem? (i := 182) rfl)
set_option maxRecDepth 100000 in
theorem fnL_79 : Cond.fieldLinkNest RL 79 RX7 (TX7 1).2.1 (TX7 1).2.2.1 "BranchmatchLaw" ∈ lw_tbl := tbw_3 (List.mem_of_getElem? (i := 183) rfl)
set_option maxRecDepth 100000 in
theorem lmX7_init : Cond.instanceMethod yX7_init ∈ WT := WT_of (tbw_3 (List.mem_of_getElem? (i := 179) rfl)) rfl
set_option maxRecDepth 100000 in
theorem lcX7_init : Cond.code yX7_init cX7_init 1 none ∈ WT := WT_of (tbw_3 (List.mem_of_getElem? (i := 180) rfl)) rfl
theorem lkX7_init : LK yX7_init cX7_init 1 0 none := ⟨lcX7_init, liX7, ⟨by decide +kernel, by decide +kernel⟩, by decide +kernel⟩
set_option maxRecDepth 100000 in
theorem ml7_obj : Cond.methodLink RX7 1 Lib.objectInit ∈ WT := WT_of (tbw_3 (List.mem_of_getElem? (i := 181) rfl)) rfl
set_option maxRecDepth 100000 in
theorem cwX7 : ∀ w ∈ u_ws RX7 TX7 2, w ∈ WT := fun w h => WT_of ((show ∀ w ∈ u_ws RX7 TX7 2, w ∈ lw_tbl by decide +kernel) w h) ((show ∀ w ∈ u_ws RX7 TX7 2, goodWord w = true by decide +kernel) w h)
set_option maxRecDepth 100000 in
theorem ncL_8 : NC RL 8 8 [.null, .null, .int 0, .int 0, .int 0, .null, .null, .null, .null, .null, .null, .null, .null, .null] := by
  refine ⟨RX6, TX6, 14, tyX6, rfl, cwX6, tyX6_ok, rfl, fun j hj => ?_, WT_of (by decide +kernel) rfl, WT_of (by decide +kernel) rfl, liX6⟩
  match j, hj with
  | 0, _ => rfl
  | 1, _ => rfl
  | 2, _ => rfl
  | 3, _ => rfl
  | 4, _ => rfl
  | 5, _ => rfl
  | 6, _ => rfl
  | 7, _ => rfl
  | 8, _ => rfl
  | 9, _ => rfl
  | 10, _ => rfl
  | 11, _ => rfl
  | 12, _ => rfl
  | 13, _ => rfl
set_option maxRecDepth 100000 in
theorem ncL_148 : NC RL 148 12 [.null, .null, .int 0, .int 0, .int 0, .int 0] := by
  refine ⟨RX10, TX10, 6, tyX10, rfl, cwX10, tyX10_ok, rfl, fun j hj => ?_, WT_of (by decide +kernel) rfl, WT_of (by decide +kernel) rfl, liX10⟩
  match j, hj with
  | 0, _ => rfl
  | 1, _ => rfl
  | 2, _ => rfl
  | 3, _ => rfl
  | 4, _ => rfl
  | 5, _ => rfl
set_option maxRecDepth 100000 in
theorem ncL_14 : NC RL 14 9 [.long 0, .null] := by
  refine ⟨RX7, TX7, 2, tyX7, rfl, cwX7, tyX7_ok, rfl, fun j hj => ?_, WT_of (by decide +kernel) rfl, WT_of (by decide +kernel) rfl, liX7⟩
  match j, hj with
  | 0, _ => rfl
  | 1, _ => rfl
end Ug02linkL
