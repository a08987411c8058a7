theorem pcs_all : PCs := sorry
