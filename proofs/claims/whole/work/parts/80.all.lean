/-! ===== all calls ===== -/
theorem pcs_all : PCs := ⟨pc_neighbour, pc_move, pc_frost, pc_say, pc_wipe, pc_fault, pc_judge, pc_done, pc_state, pc_behind, pc_trees, pc_may, pc_safe, pc_stripped, pc_thefts, pc_round, pc_chain, pc_exchange, pc_seen, pc_forget, pc_boots, pc_look, pc_duel, pc_caught, pc_moons, pc_year, pc_image, pc_restore, pc_told⟩
